/-! methods with loops, printed by wip/whole/loop.py -/
def zb_X1_takeCode__0_0 (N : Nat) (rec : Nat → Int32 → Int32 → (Nat → Nat → Int32) → (Nat → Nat → Int64) → Option (Int32 × (Nat → Nat → Int32) × (Nat → Nat → Int64))) (l2 : Int32) (l3 : Int32) (I : Nat → Nat → Int32) (J : Nat → Nat → Int64) : Option (Int32 × (Nat → Nat → Int32) × (Nat → Nat → Int64)) := rec 20 0 0 (zz_u I 28 3 (zz_min l2 (zz_min (nI 7) (nI 40)))) J
def zb_X1_takeCode__0_20 (N : Nat) (rec : Nat → Int32 → Int32 → (Nat → Nat → Int32) → (Nat → Nat → Int64) → Option (Int32 × (Nat → Nat → Int32) × (Nat → Nat → Int64))) (l2 : Int32) (l3 : Int32) (I : Nat → Nat → Int32) (J : Nat → Nat → Int64) : Option (Int32 × (Nat → Nat → Int32) × (Nat → Nat → Int64)) := if (I 28 3) ≤ l3 then (some (0, zz_u I 28 4 0, J)) else (if ¬ (l3 < 0 ∨ 7 ≤ l3.toNatClampNeg) then (if ¬ (l3 < 0 ∨ 40 ≤ l3.toNatClampNeg) then (rec 20 0 (l3 + 1) (zz_u I 29 l3.toNatClampNeg (I 0 l3.toNatClampNeg)) J) else none) else none)
def zl_X1_takeCode__0 (N : Nat) : Nat → Nat → Int32 → Int32 → (Nat → Nat → Int32) → (Nat → Nat → Int64) → Option (Int32 × (Nat → Nat → Int32) × (Nat → Nat → Int64))
  | 0 => fun _ _ _ _ _ => none
  | n + 1 => fun pc l2 l3 I J => if pc = 0 then zb_X1_takeCode__0_0 N (zl_X1_takeCode__0 N n) l2 l3 I J else (if pc = 20 then zb_X1_takeCode__0_20 N (zl_X1_takeCode__0 N n) l2 l3 I J else none)
def zf_X1_takeCode__0 (N : Nat) (l2 : Int32) (I : Nat → Nat → Int32) (J : Nat → Nat → Int64) : Option (Int32 × (Nat → Nat → Int32) × (Nat → Nat → Int64)) := zl_X1_takeCode__0 N N 0 l2 0 I J
theorem zq_X1_takeCode__0 (F : zz_F) (d N : Nat) : ∀ n : Nat, (∀ (l2 : Int32) (l3 : Int32) (I : Nat → Nat → Int32) (J : Nat → Nat → Int64) (r : Int32 × (Nat → Nat → Int32) × (Nat → Nat → Int64)), zl_X1_takeCode__0 N n 0 l2 l3 I J = some r → zz_run (d+1) 7 0 [some (.ref 28), some (.ref 0), some (.int (l2)), none] [] (zz_S F I J) none (zz_S F (r.2.1) (J))) ∧ (∀ (l2 : Int32) (l3 : Int32) (I : Nat → Nat → Int32) (J : Nat → Nat → Int64) (r : Int32 × (Nat → Nat → Int32) × (Nat → Nat → Int64)), zl_X1_takeCode__0 N n 20 l2 l3 I J = some r → zz_run (d+1) 7 20 [some (.ref 28), some (.ref 0), none, some (.int (l3))] [] (zz_S F I J) none (zz_S F (r.2.1) (J))) := by
  intro n
  induction n with
  | zero => exact ⟨fun _ _ _ _ _ h => zz_no h, fun _ _ _ _ _ h => zz_no h⟩
  | succ n ih =>
    obtain ⟨ih0, ih20⟩ := ih
    refine ⟨?_, ?_⟩
    · intro l2 l3 I J r hr
      replace hr : zb_X1_takeCode__0_0 N (zl_X1_takeCode__0 N n) l2 l3 I J = some r := hr
      unfold zb_X1_takeCode__0_0 at hr
      refine zs_7_0 ?_
      repeat' first | refine And.intro rfl ?_ | refine And.intro (Or.inl rfl) ?_ | refine And.intro (Or.inr rfl) ?_ | refine And.intro (Nat.le_of_ble_eq_true rfl) ?_ | refine And.intro (And.intro rfl rfl) ?_ | exact rfl
      refine Exists.intro _ (Exists.intro _ (And.intro (zr_min F I J d (nI 7) (nI 40)) ?_))
      repeat' first | refine And.intro rfl ?_ | refine And.intro (Or.inl rfl) ?_ | refine And.intro (Or.inr rfl) ?_ | refine And.intro (Nat.le_of_ble_eq_true rfl) ?_ | refine And.intro (And.intro rfl rfl) ?_ | exact rfl
      refine Exists.intro _ (Exists.intro _ (And.intro (zr_min F I J d l2 (zz_min (nI 7) (nI 40))) ?_))
      repeat' first | refine And.intro rfl ?_ | refine And.intro (Or.inl rfl) ?_ | refine And.intro (Or.inr rfl) ?_ | refine And.intro (Nat.le_of_ble_eq_true rfl) ?_ | refine And.intro (And.intro rfl rfl) ?_ | exact rfl
      exact zz_wk [true, true, false, true] rfl (ih20 _ _ _ _ _ hr)
    · intro l2 l3 I J r hr
      replace hr : zb_X1_takeCode__0_20 N (zl_X1_takeCode__0 N n) l2 l3 I J = some r := hr
      unfold zb_X1_takeCode__0_20 at hr
      refine zs_7_20 ?_
      repeat' first | refine And.intro rfl ?_ | refine And.intro (Or.inl rfl) ?_ | refine And.intro (Or.inr rfl) ?_ | refine And.intro (Nat.le_of_ble_eq_true rfl) ?_ | refine And.intro (And.intro rfl rfl) ?_ | exact rfl
      refine And.intro (fun (h1 : (I 28 3) ≤ l3) => ?_) (fun (h1 : ¬ ((I 28 3) ≤ l3)) => ?_)
      · rw [if_pos h1] at hr
        refine zs_7_43 ?_
        repeat' first | refine And.intro rfl ?_ | refine And.intro (Or.inl rfl) ?_ | refine And.intro (Or.inr rfl) ?_ | refine And.intro (Nat.le_of_ble_eq_true rfl) ?_ | refine And.intro (And.intro rfl rfl) ?_ | exact rfl
        cases hr
        repeat' first | refine And.intro rfl ?_ | refine And.intro (Or.inl rfl) ?_ | refine And.intro (Or.inr rfl) ?_ | refine And.intro (Nat.le_of_ble_eq_true rfl) ?_ | refine And.intro (And.intro rfl rfl) ?_ | exact rfl
      · rw [if_neg h1] at hr
        repeat' first | refine And.intro rfl ?_ | refine And.intro (Or.inl rfl) ?_ | refine And.intro (Or.inr rfl) ?_ | refine And.intro (Nat.le_of_ble_eq_true rfl) ?_ | refine And.intro (And.intro rfl rfl) ?_ | exact rfl
        have g1 : ¬ (l3 < 0 ∨ 7 ≤ l3.toNatClampNeg) := zz_g hr
        replace hr := zz_gt hr
        refine And.intro (g1) ?_
        repeat' first | refine And.intro rfl ?_ | refine And.intro (Or.inl rfl) ?_ | refine And.intro (Or.inr rfl) ?_ | refine And.intro (Nat.le_of_ble_eq_true rfl) ?_ | refine And.intro (And.intro rfl rfl) ?_ | exact rfl
        have g2 : ¬ (l3 < 0 ∨ 40 ≤ l3.toNatClampNeg) := zz_g hr
        replace hr := zz_gt hr
        refine And.intro (g2) ?_
        repeat' first | refine And.intro rfl ?_ | refine And.intro (Or.inl rfl) ?_ | refine And.intro (Or.inr rfl) ?_ | refine And.intro (Nat.le_of_ble_eq_true rfl) ?_ | refine And.intro (And.intro rfl rfl) ?_ | exact rfl
        exact zz_wk [true, true, false, true] rfl (ih20 _ _ _ _ _ hr)
theorem zr_X1_takeCode__0 (F : zz_F) (I : Nat → Nat → Int32) (J : Nat → Nat → Int64) (d N : Nat) (l2 : Int32) (r : Int32 × (Nat → Nat → Int32) × (Nat → Nat → Int64)) (h : zf_X1_takeCode__0 N l2 I J = some r) : zz_run (d+1) 7 0 [some (.ref 28), some (.ref 0), some (.int (l2)), none] [] (zz_S F I J) none (zz_S F (r.2.1) (J)) := (zq_X1_takeCode__0 F d N N).1 l2 0 I J r h
def zb_X1_takeCode__38_0 (N : Nat) (rec : Nat → Int32 → Int32 → (Nat → Nat → Int32) → (Nat → Nat → Int64) → Option (Int32 × (Nat → Nat → Int32) × (Nat → Nat → Int64))) (l2 : Int32) (l3 : Int32) (I : Nat → Nat → Int32) (J : Nat → Nat → Int64) : Option (Int32 × (Nat → Nat → Int32) × (Nat → Nat → Int64)) := rec 20 0 0 (zz_u I 28 3 (zz_min l2 (zz_min (nI 40) (nI 40)))) J
def zb_X1_takeCode__38_20 (N : Nat) (rec : Nat → Int32 → Int32 → (Nat → Nat → Int32) → (Nat → Nat → Int64) → Option (Int32 × (Nat → Nat → Int32) × (Nat → Nat → Int64))) (l2 : Int32) (l3 : Int32) (I : Nat → Nat → Int32) (J : Nat → Nat → Int64) : Option (Int32 × (Nat → Nat → Int32) × (Nat → Nat → Int64)) := if (I 28 3) ≤ l3 then (some (0, zz_u I 28 4 0, J)) else (if ¬ (l3 < 0 ∨ 40 ≤ l3.toNatClampNeg) then (rec 20 0 (l3 + 1) (zz_u I 29 l3.toNatClampNeg (I 38 l3.toNatClampNeg)) J) else none)
def zl_X1_takeCode__38 (N : Nat) : Nat → Nat → Int32 → Int32 → (Nat → Nat → Int32) → (Nat → Nat → Int64) → Option (Int32 × (Nat → Nat → Int32) × (Nat → Nat → Int64))
  | 0 => fun _ _ _ _ _ => none
  | n + 1 => fun pc l2 l3 I J => if pc = 0 then zb_X1_takeCode__38_0 N (zl_X1_takeCode__38 N n) l2 l3 I J else (if pc = 20 then zb_X1_takeCode__38_20 N (zl_X1_takeCode__38 N n) l2 l3 I J else none)
def zf_X1_takeCode__38 (N : Nat) (l2 : Int32) (I : Nat → Nat → Int32) (J : Nat → Nat → Int64) : Option (Int32 × (Nat → Nat → Int32) × (Nat → Nat → Int64)) := zl_X1_takeCode__38 N N 0 l2 0 I J
theorem zq_X1_takeCode__38 (F : zz_F) (d N : Nat) : ∀ n : Nat, (∀ (l2 : Int32) (l3 : Int32) (I : Nat → Nat → Int32) (J : Nat → Nat → Int64) (r : Int32 × (Nat → Nat → Int32) × (Nat → Nat → Int64)), zl_X1_takeCode__38 N n 0 l2 l3 I J = some r → zz_run (d+1) 7 0 [some (.ref 28), some (.ref 38), some (.int (l2)), none] [] (zz_S F I J) none (zz_S F (r.2.1) (J))) ∧ (∀ (l2 : Int32) (l3 : Int32) (I : Nat → Nat → Int32) (J : Nat → Nat → Int64) (r : Int32 × (Nat → Nat → Int32) × (Nat → Nat → Int64)), zl_X1_takeCode__38 N n 20 l2 l3 I J = some r → zz_run (d+1) 7 20 [some (.ref 28), some (.ref 38), none, some (.int (l3))] [] (zz_S F I J) none (zz_S F (r.2.1) (J))) := by
  intro n
  induction n with
  | zero => exact ⟨fun _ _ _ _ _ h => zz_no h, fun _ _ _ _ _ h => zz_no h⟩
  | succ n ih =>
    obtain ⟨ih0, ih20⟩ := ih
    refine ⟨?_, ?_⟩
    · intro l2 l3 I J r hr
      replace hr : zb_X1_takeCode__38_0 N (zl_X1_takeCode__38 N n) l2 l3 I J = some r := hr
      unfold zb_X1_takeCode__38_0 at hr
      refine zs_7_0 ?_
      repeat' first | refine And.intro rfl ?_ | refine And.intro (Or.inl rfl) ?_ | refine And.intro (Or.inr rfl) ?_ | refine And.intro (Nat.le_of_ble_eq_true rfl) ?_ | refine And.intro (And.intro rfl rfl) ?_ | exact rfl
      refine Exists.intro _ (Exists.intro _ (And.intro (zr_min F I J d (nI 40) (nI 40)) ?_))
      repeat' first | refine And.intro rfl ?_ | refine And.intro (Or.inl rfl) ?_ | refine And.intro (Or.inr rfl) ?_ | refine And.intro (Nat.le_of_ble_eq_true rfl) ?_ | refine And.intro (And.intro rfl rfl) ?_ | exact rfl
      refine Exists.intro _ (Exists.intro _ (And.intro (zr_min F I J d l2 (zz_min (nI 40) (nI 40))) ?_))
      repeat' first | refine And.intro rfl ?_ | refine And.intro (Or.inl rfl) ?_ | refine And.intro (Or.inr rfl) ?_ | refine And.intro (Nat.le_of_ble_eq_true rfl) ?_ | refine And.intro (And.intro rfl rfl) ?_ | exact rfl
      exact zz_wk [true, true, false, true] rfl (ih20 _ _ _ _ _ hr)
    · intro l2 l3 I J r hr
      replace hr : zb_X1_takeCode__38_20 N (zl_X1_takeCode__38 N n) l2 l3 I J = some r := hr
      unfold zb_X1_takeCode__38_20 at hr
      refine zs_7_20 ?_
      repeat' first | refine And.intro rfl ?_ | refine And.intro (Or.inl rfl) ?_ | refine And.intro (Or.inr rfl) ?_ | refine And.intro (Nat.le_of_ble_eq_true rfl) ?_ | refine And.intro (And.intro rfl rfl) ?_ | exact rfl
      refine And.intro (fun (h1 : (I 28 3) ≤ l3) => ?_) (fun (h1 : ¬ ((I 28 3) ≤ l3)) => ?_)
      · rw [if_pos h1] at hr
        refine zs_7_43 ?_
        repeat' first | refine And.intro rfl ?_ | refine And.intro (Or.inl rfl) ?_ | refine And.intro (Or.inr rfl) ?_ | refine And.intro (Nat.le_of_ble_eq_true rfl) ?_ | refine And.intro (And.intro rfl rfl) ?_ | exact rfl
        cases hr
        repeat' first | refine And.intro rfl ?_ | refine And.intro (Or.inl rfl) ?_ | refine And.intro (Or.inr rfl) ?_ | refine And.intro (Nat.le_of_ble_eq_true rfl) ?_ | refine And.intro (And.intro rfl rfl) ?_ | exact rfl
      · rw [if_neg h1] at hr
        repeat' first | refine And.intro rfl ?_ | refine And.intro (Or.inl rfl) ?_ | refine And.intro (Or.inr rfl) ?_ | refine And.intro (Nat.le_of_ble_eq_true rfl) ?_ | refine And.intro (And.intro rfl rfl) ?_ | exact rfl
        have g1 : ¬ (l3 < 0 ∨ 40 ≤ l3.toNatClampNeg) := zz_g hr
        replace hr := zz_gt hr
        refine And.intro (g1) ?_
        repeat' first | refine And.intro rfl ?_ | refine And.intro (Or.inl rfl) ?_ | refine And.intro (Or.inr rfl) ?_ | refine And.intro (Nat.le_of_ble_eq_true rfl) ?_ | refine And.intro (And.intro rfl rfl) ?_ | exact rfl
        refine And.intro (g1) ?_
        repeat' first | refine And.intro rfl ?_ | refine And.intro (Or.inl rfl) ?_ | refine And.intro (Or.inr rfl) ?_ | refine And.intro (Nat.le_of_ble_eq_true rfl) ?_ | refine And.intro (And.intro rfl rfl) ?_ | exact rfl
        exact zz_wk [true, true, false, true] rfl (ih20 _ _ _ _ _ hr)
theorem zr_X1_takeCode__38 (F : zz_F) (I : Nat → Nat → Int32) (J : Nat → Nat → Int64) (d N : Nat) (l2 : Int32) (r : Int32 × (Nat → Nat → Int32) × (Nat → Nat → Int64)) (h : zf_X1_takeCode__38 N l2 I J = some r) : zz_run (d+1) 7 0 [some (.ref 28), some (.ref 38), some (.int (l2)), none] [] (zz_S F I J) none (zz_S F (r.2.1) (J)) := (zq_X1_takeCode__38 F d N N).1 l2 0 I J r h
def zb_X1_takeCode_32__0_0 (N : Nat) (rec : Nat → Int32 → Int32 → (Nat → Nat → Int32) → (Nat → Nat → Int64) → Option (Int32 × (Nat → Nat → Int32) × (Nat → Nat → Int64))) (l2 : Int32) (l3 : Int32) (I : Nat → Nat → Int32) (J : Nat → Nat → Int64) : Option (Int32 × (Nat → Nat → Int32) × (Nat → Nat → Int64)) := rec 20 0 0 (zz_u I 32 3 (zz_min l2 (zz_min (nI 7) (nI 40)))) J
def zb_X1_takeCode_32__0_20 (N : Nat) (rec : Nat → Int32 → Int32 → (Nat → Nat → Int32) → (Nat → Nat → Int64) → Option (Int32 × (Nat → Nat → Int32) × (Nat → Nat → Int64))) (l2 : Int32) (l3 : Int32) (I : Nat → Nat → Int32) (J : Nat → Nat → Int64) : Option (Int32 × (Nat → Nat → Int32) × (Nat → Nat → Int64)) := if (I 32 3) ≤ l3 then (some (0, zz_u I 32 4 0, J)) else (if ¬ (l3 < 0 ∨ 7 ≤ l3.toNatClampNeg) then (if ¬ (l3 < 0 ∨ 40 ≤ l3.toNatClampNeg) then (rec 20 0 (l3 + 1) (zz_u I 33 l3.toNatClampNeg (I 0 l3.toNatClampNeg)) J) else none) else none)
def zl_X1_takeCode_32__0 (N : Nat) : Nat → Nat → Int32 → Int32 → (Nat → Nat → Int32) → (Nat → Nat → Int64) → Option (Int32 × (Nat → Nat → Int32) × (Nat → Nat → Int64))
  | 0 => fun _ _ _ _ _ => none
  | n + 1 => fun pc l2 l3 I J => if pc = 0 then zb_X1_takeCode_32__0_0 N (zl_X1_takeCode_32__0 N n) l2 l3 I J else (if pc = 20 then zb_X1_takeCode_32__0_20 N (zl_X1_takeCode_32__0 N n) l2 l3 I J else none)
def zf_X1_takeCode_32__0 (N : Nat) (l2 : Int32) (I : Nat → Nat → Int32) (J : Nat → Nat → Int64) : Option (Int32 × (Nat → Nat → Int32) × (Nat → Nat → Int64)) := zl_X1_takeCode_32__0 N N 0 l2 0 I J
theorem zq_X1_takeCode_32__0 (F : zz_F) (d N : Nat) : ∀ n : Nat, (∀ (l2 : Int32) (l3 : Int32) (I : Nat → Nat → Int32) (J : Nat → Nat → Int64) (r : Int32 × (Nat → Nat → Int32) × (Nat → Nat → Int64)), zl_X1_takeCode_32__0 N n 0 l2 l3 I J = some r → zz_run (d+1) 7 0 [some (.ref 32), some (.ref 0), some (.int (l2)), none] [] (zz_S F I J) none (zz_S F (r.2.1) (J))) ∧ (∀ (l2 : Int32) (l3 : Int32) (I : Nat → Nat → Int32) (J : Nat → Nat → Int64) (r : Int32 × (Nat → Nat → Int32) × (Nat → Nat → Int64)), zl_X1_takeCode_32__0 N n 20 l2 l3 I J = some r → zz_run (d+1) 7 20 [some (.ref 32), some (.ref 0), none, some (.int (l3))] [] (zz_S F I J) none (zz_S F (r.2.1) (J))) := by
  intro n
  induction n with
  | zero => exact ⟨fun _ _ _ _ _ h => zz_no h, fun _ _ _ _ _ h => zz_no h⟩
  | succ n ih =>
    obtain ⟨ih0, ih20⟩ := ih
    refine ⟨?_, ?_⟩
    · intro l2 l3 I J r hr
      replace hr : zb_X1_takeCode_32__0_0 N (zl_X1_takeCode_32__0 N n) l2 l3 I J = some r := hr
      unfold zb_X1_takeCode_32__0_0 at hr
      refine zs_7_0 ?_
      repeat' first | refine And.intro rfl ?_ | refine And.intro (Or.inl rfl) ?_ | refine And.intro (Or.inr rfl) ?_ | refine And.intro (Nat.le_of_ble_eq_true rfl) ?_ | refine And.intro (And.intro rfl rfl) ?_ | exact rfl
      refine Exists.intro _ (Exists.intro _ (And.intro (zr_min F I J d (nI 7) (nI 40)) ?_))
      repeat' first | refine And.intro rfl ?_ | refine And.intro (Or.inl rfl) ?_ | refine And.intro (Or.inr rfl) ?_ | refine And.intro (Nat.le_of_ble_eq_true rfl) ?_ | refine And.intro (And.intro rfl rfl) ?_ | exact rfl
      refine Exists.intro _ (Exists.intro _ (And.intro (zr_min F I J d l2 (zz_min (nI 7) (nI 40))) ?_))
      repeat' first | refine And.intro rfl ?_ | refine And.intro (Or.inl rfl) ?_ | refine And.intro (Or.inr rfl) ?_ | refine And.intro (Nat.le_of_ble_eq_true rfl) ?_ | refine And.intro (And.intro rfl rfl) ?_ | exact rfl
      exact zz_wk [true, true, false, true] rfl (ih20 _ _ _ _ _ hr)
    · intro l2 l3 I J r hr
      replace hr : zb_X1_takeCode_32__0_20 N (zl_X1_takeCode_32__0 N n) l2 l3 I J = some r := hr
      unfold zb_X1_takeCode_32__0_20 at hr
      refine zs_7_20 ?_
      repeat' first | refine And.intro rfl ?_ | refine And.intro (Or.inl rfl) ?_ | refine And.intro (Or.inr rfl) ?_ | refine And.intro (Nat.le_of_ble_eq_true rfl) ?_ | refine And.intro (And.intro rfl rfl) ?_ | exact rfl
      refine And.intro (fun (h1 : (I 32 3) ≤ l3) => ?_) (fun (h1 : ¬ ((I 32 3) ≤ l3)) => ?_)
      · rw [if_pos h1] at hr
        refine zs_7_43 ?_
        repeat' first | refine And.intro rfl ?_ | refine And.intro (Or.inl rfl) ?_ | refine And.intro (Or.inr rfl) ?_ | refine And.intro (Nat.le_of_ble_eq_true rfl) ?_ | refine And.intro (And.intro rfl rfl) ?_ | exact rfl
        cases hr
        repeat' first | refine And.intro rfl ?_ | refine And.intro (Or.inl rfl) ?_ | refine And.intro (Or.inr rfl) ?_ | refine And.intro (Nat.le_of_ble_eq_true rfl) ?_ | refine And.intro (And.intro rfl rfl) ?_ | exact rfl
      · rw [if_neg h1] at hr
        repeat' first | refine And.intro rfl ?_ | refine And.intro (Or.inl rfl) ?_ | refine And.intro (Or.inr rfl) ?_ | refine And.intro (Nat.le_of_ble_eq_true rfl) ?_ | refine And.intro (And.intro rfl rfl) ?_ | exact rfl
        have g1 : ¬ (l3 < 0 ∨ 7 ≤ l3.toNatClampNeg) := zz_g hr
        replace hr := zz_gt hr
        refine And.intro (g1) ?_
        repeat' first | refine And.intro rfl ?_ | refine And.intro (Or.inl rfl) ?_ | refine And.intro (Or.inr rfl) ?_ | refine And.intro (Nat.le_of_ble_eq_true rfl) ?_ | refine And.intro (And.intro rfl rfl) ?_ | exact rfl
        have g2 : ¬ (l3 < 0 ∨ 40 ≤ l3.toNatClampNeg) := zz_g hr
        replace hr := zz_gt hr
        refine And.intro (g2) ?_
        repeat' first | refine And.intro rfl ?_ | refine And.intro (Or.inl rfl) ?_ | refine And.intro (Or.inr rfl) ?_ | refine And.intro (Nat.le_of_ble_eq_true rfl) ?_ | refine And.intro (And.intro rfl rfl) ?_ | exact rfl
        exact zz_wk [true, true, false, true] rfl (ih20 _ _ _ _ _ hr)
theorem zr_X1_takeCode_32__0 (F : zz_F) (I : Nat → Nat → Int32) (J : Nat → Nat → Int64) (d N : Nat) (l2 : Int32) (r : Int32 × (Nat → Nat → Int32) × (Nat → Nat → Int64)) (h : zf_X1_takeCode_32__0 N l2 I J = some r) : zz_run (d+1) 7 0 [some (.ref 32), some (.ref 0), some (.int (l2)), none] [] (zz_S F I J) none (zz_S F (r.2.1) (J)) := (zq_X1_takeCode_32__0 F d N N).1 l2 0 I J r h
def zb_X1_takeCode_32__38_0 (N : Nat) (rec : Nat → Int32 → Int32 → (Nat → Nat → Int32) → (Nat → Nat → Int64) → Option (Int32 × (Nat → Nat → Int32) × (Nat → Nat → Int64))) (l2 : Int32) (l3 : Int32) (I : Nat → Nat → Int32) (J : Nat → Nat → Int64) : Option (Int32 × (Nat → Nat → Int32) × (Nat → Nat → Int64)) := rec 20 0 0 (zz_u I 32 3 (zz_min l2 (zz_min (nI 40) (nI 40)))) J
def zb_X1_takeCode_32__38_20 (N : Nat) (rec : Nat → Int32 → Int32 → (Nat → Nat → Int32) → (Nat → Nat → Int64) → Option (Int32 × (Nat → Nat → Int32) × (Nat → Nat → Int64))) (l2 : Int32) (l3 : Int32) (I : Nat → Nat → Int32) (J : Nat → Nat → Int64) : Option (Int32 × (Nat → Nat → Int32) × (Nat → Nat → Int64)) := if (I 32 3) ≤ l3 then (some (0, zz_u I 32 4 0, J)) else (if ¬ (l3 < 0 ∨ 40 ≤ l3.toNatClampNeg) then (rec 20 0 (l3 + 1) (zz_u I 33 l3.toNatClampNeg (I 38 l3.toNatClampNeg)) J) else none)
def zl_X1_takeCode_32__38 (N : Nat) : Nat → Nat → Int32 → Int32 → (Nat → Nat → Int32) → (Nat → Nat → Int64) → Option (Int32 × (Nat → Nat → Int32) × (Nat → Nat → Int64))
  | 0 => fun _ _ _ _ _ => none
  | n + 1 => fun pc l2 l3 I J => if pc = 0 then zb_X1_takeCode_32__38_0 N (zl_X1_takeCode_32__38 N n) l2 l3 I J else (if pc = 20 then zb_X1_takeCode_32__38_20 N (zl_X1_takeCode_32__38 N n) l2 l3 I J else none)
def zf_X1_takeCode_32__38 (N : Nat) (l2 : Int32) (I : Nat → Nat → Int32) (J : Nat → Nat → Int64) : Option (Int32 × (Nat → Nat → Int32) × (Nat → Nat → Int64)) := zl_X1_takeCode_32__38 N N 0 l2 0 I J
theorem zq_X1_takeCode_32__38 (F : zz_F) (d N : Nat) : ∀ n : Nat, (∀ (l2 : Int32) (l3 : Int32) (I : Nat → Nat → Int32) (J : Nat → Nat → Int64) (r : Int32 × (Nat → Nat → Int32) × (Nat → Nat → Int64)), zl_X1_takeCode_32__38 N n 0 l2 l3 I J = some r → zz_run (d+1) 7 0 [some (.ref 32), some (.ref 38), some (.int (l2)), none] [] (zz_S F I J) none (zz_S F (r.2.1) (J))) ∧ (∀ (l2 : Int32) (l3 : Int32) (I : Nat → Nat → Int32) (J : Nat → Nat → Int64) (r : Int32 × (Nat → Nat → Int32) × (Nat → Nat → Int64)), zl_X1_takeCode_32__38 N n 20 l2 l3 I J = some r → zz_run (d+1) 7 20 [some (.ref 32), some (.ref 38), none, some (.int (l3))] [] (zz_S F I J) none (zz_S F (r.2.1) (J))) := by
  intro n
  induction n with
  | zero => exact ⟨fun _ _ _ _ _ h => zz_no h, fun _ _ _ _ _ h => zz_no h⟩
  | succ n ih =>
    obtain ⟨ih0, ih20⟩ := ih
    refine ⟨?_, ?_⟩
    · intro l2 l3 I J r hr
      replace hr : zb_X1_takeCode_32__38_0 N (zl_X1_takeCode_32__38 N n) l2 l3 I J = some r := hr
      unfold zb_X1_takeCode_32__38_0 at hr
      refine zs_7_0 ?_
      repeat' first | refine And.intro rfl ?_ | refine And.intro (Or.inl rfl) ?_ | refine And.intro (Or.inr rfl) ?_ | refine And.intro (Nat.le_of_ble_eq_true rfl) ?_ | refine And.intro (And.intro rfl rfl) ?_ | exact rfl
      refine Exists.intro _ (Exists.intro _ (And.intro (zr_min F I J d (nI 40) (nI 40)) ?_))
      repeat' first | refine And.intro rfl ?_ | refine And.intro (Or.inl rfl) ?_ | refine And.intro (Or.inr rfl) ?_ | refine And.intro (Nat.le_of_ble_eq_true rfl) ?_ | refine And.intro (And.intro rfl rfl) ?_ | exact rfl
      refine Exists.intro _ (Exists.intro _ (And.intro (zr_min F I J d l2 (zz_min (nI 40) (nI 40))) ?_))
      repeat' first | refine And.intro rfl ?_ | refine And.intro (Or.inl rfl) ?_ | refine And.intro (Or.inr rfl) ?_ | refine And.intro (Nat.le_of_ble_eq_true rfl) ?_ | refine And.intro (And.intro rfl rfl) ?_ | exact rfl
      exact zz_wk [true, true, false, true] rfl (ih20 _ _ _ _ _ hr)
    · intro l2 l3 I J r hr
      replace hr : zb_X1_takeCode_32__38_20 N (zl_X1_takeCode_32__38 N n) l2 l3 I J = some r := hr
      unfold zb_X1_takeCode_32__38_20 at hr
      refine zs_7_20 ?_
      repeat' first | refine And.intro rfl ?_ | refine And.intro (Or.inl rfl) ?_ | refine And.intro (Or.inr rfl) ?_ | refine And.intro (Nat.le_of_ble_eq_true rfl) ?_ | refine And.intro (And.intro rfl rfl) ?_ | exact rfl
      refine And.intro (fun (h1 : (I 32 3) ≤ l3) => ?_) (fun (h1 : ¬ ((I 32 3) ≤ l3)) => ?_)
      · rw [if_pos h1] at hr
        refine zs_7_43 ?_
        repeat' first | refine And.intro rfl ?_ | refine And.intro (Or.inl rfl) ?_ | refine And.intro (Or.inr rfl) ?_ | refine And.intro (Nat.le_of_ble_eq_true rfl) ?_ | refine And.intro (And.intro rfl rfl) ?_ | exact rfl
        cases hr
        repeat' first | refine And.intro rfl ?_ | refine And.intro (Or.inl rfl) ?_ | refine And.intro (Or.inr rfl) ?_ | refine And.intro (Nat.le_of_ble_eq_true rfl) ?_ | refine And.intro (And.intro rfl rfl) ?_ | exact rfl
      · rw [if_neg h1] at hr
        repeat' first | refine And.intro rfl ?_ | refine And.intro (Or.inl rfl) ?_ | refine And.intro (Or.inr rfl) ?_ | refine And.intro (Nat.le_of_ble_eq_true rfl) ?_ | refine And.intro (And.intro rfl rfl) ?_ | exact rfl
        have g1 : ¬ (l3 < 0 ∨ 40 ≤ l3.toNatClampNeg) := zz_g hr
        replace hr := zz_gt hr
        refine And.intro (g1) ?_
        repeat' first | refine And.intro rfl ?_ | refine And.intro (Or.inl rfl) ?_ | refine And.intro (Or.inr rfl) ?_ | refine And.intro (Nat.le_of_ble_eq_true rfl) ?_ | refine And.intro (And.intro rfl rfl) ?_ | exact rfl
        refine And.intro (g1) ?_
        repeat' first | refine And.intro rfl ?_ | refine And.intro (Or.inl rfl) ?_ | refine And.intro (Or.inr rfl) ?_ | refine And.intro (Nat.le_of_ble_eq_true rfl) ?_ | refine And.intro (And.intro rfl rfl) ?_ | exact rfl
        exact zz_wk [true, true, false, true] rfl (ih20 _ _ _ _ _ hr)
theorem zr_X1_takeCode_32__38 (F : zz_F) (I : Nat → Nat → Int32) (J : Nat → Nat → Int64) (d N : Nat) (l2 : Int32) (r : Int32 × (Nat → Nat → Int32) × (Nat → Nat → Int64)) (h : zf_X1_takeCode_32__38 N l2 I J = some r) : zz_run (d+1) 7 0 [some (.ref 32), some (.ref 38), some (.int (l2)), none] [] (zz_S F I J) none (zz_S F (r.2.1) (J)) := (zq_X1_takeCode_32__38 F d N N).1 l2 0 I J r h
def zb_X1_thing__5_0 (N : Nat) (rec : Nat → Int32 → Int32 → Int32 → (Nat → Nat → Int32) → (Nat → Nat → Int64) → Option (Int32 × (Nat → Nat → Int32) × (Nat → Nat → Int64))) (l1 : Int32) (l2 : Int32) (l3 : Int32) (I : Nat → Nat → Int32) (J : Nat → Nat → Int64) : Option (Int32 × (Nat → Nat → Int32) × (Nat → Nat → Int64)) := if l1 = 108 then (some (zz_f I l2 1, I, J)) else (if l1 = 109 then (some (zz_f I l3 1, I, J)) else (if l1 = 110 then (rec 109 0 0 l3 I J) else (if l1 = 111 then (if ¬ (zz_f I l2 0) = (zz_f I l3 0) then (some (1, I, J)) else (some (0, I, J))) else (if l1 = 112 then (some (zv_J6_bitCount ((zz_f I l2 2) &&& (zz_f I l3 2)), I, J)) else (if l1 = 113 then (some (zv_J6_bitCount ((zz_f I l2 3) ^^^ (zz_f I l3 3)), I, J)) else (rec 109 0 0 l3 I J))))))
def zb_X1_thing__5_109 (N : Nat) (rec : Nat → Int32 → Int32 → Int32 → (Nat → Nat → Int32) → (Nat → Nat → Int64) → Option (Int32 × (Nat → Nat → Int32) × (Nat → Nat → Int64))) (l1 : Int32) (l2 : Int32) (l3 : Int32) (I : Nat → Nat → Int32) (J : Nat → Nat → Int64) : Option (Int32 × (Nat → Nat → Int32) × (Nat → Nat → Int64)) := some (zv_J6_bitCount (zz_f I l3 2), I, J)
def zl_X1_thing__5 (N : Nat) : Nat → Nat → Int32 → Int32 → Int32 → (Nat → Nat → Int32) → (Nat → Nat → Int64) → Option (Int32 × (Nat → Nat → Int32) × (Nat → Nat → Int64))
  | 0 => fun _ _ _ _ _ _ => none
  | n + 1 => fun pc l1 l2 l3 I J => if pc = 0 then zb_X1_thing__5_0 N (zl_X1_thing__5 N n) l1 l2 l3 I J else (if pc = 109 then zb_X1_thing__5_109 N (zl_X1_thing__5 N n) l1 l2 l3 I J else none)
def zf_X1_thing__5 (N : Nat) (l1 : Int32) (l2 : Int32) (l3 : Int32) (I : Nat → Nat → Int32) (J : Nat → Nat → Int64) : Option (Int32 × (Nat → Nat → Int32) × (Nat → Nat → Int64)) := zl_X1_thing__5 N N 0 l1 l2 l3 I J
theorem zq_X1_thing__5 (F : zz_F) (d N : Nat) : ∀ n : Nat, (∀ (l1 : Int32) (l2 : Int32) (l3 : Int32) (I : Nat → Nat → Int32) (J : Nat → Nat → Int64) (r : Int32 × (Nat → Nat → Int32) × (Nat → Nat → Int64)), zl_X1_thing__5 N n 0 l1 l2 l3 I J = some r → zz_run (d+1) 13 0 [some (.ref 5), some (.int (l1)), some (.int (l2)), some (.int (l3))] [] (zz_S F I J) (some (.int (r.1))) (zz_S F (I) (J))) ∧ (∀ (l1 : Int32) (l2 : Int32) (l3 : Int32) (I : Nat → Nat → Int32) (J : Nat → Nat → Int64) (r : Int32 × (Nat → Nat → Int32) × (Nat → Nat → Int64)), zl_X1_thing__5 N n 109 l1 l2 l3 I J = some r → zz_run (d+1) 13 109 [some (.ref 5), none, none, some (.int (l3))] [] (zz_S F I J) (some (.int (r.1))) (zz_S F (I) (J))) := by
  intro n
  induction n with
  | zero => exact ⟨fun _ _ _ _ _ _ h => zz_no h, fun _ _ _ _ _ _ h => zz_no h⟩
  | succ n ih =>
    obtain ⟨ih0, ih109⟩ := ih
    refine ⟨?_, ?_⟩
    · intro l1 l2 l3 I J r hr
      replace hr : zb_X1_thing__5_0 N (zl_X1_thing__5 N n) l1 l2 l3 I J = some r := hr
      unfold zb_X1_thing__5_0 at hr
      refine zs_13_0 ?_
      repeat' first | refine And.intro rfl ?_ | refine And.intro (Or.inl rfl) ?_ | refine And.intro (Or.inr rfl) ?_ | refine And.intro (Nat.le_of_ble_eq_true rfl) ?_ | refine And.intro (And.intro rfl rfl) ?_ | exact rfl
      by_cases s1_0 : l1 = 108
      · rw [if_pos s1_0] at hr
        refine And.intro (fun (q : l1.toInt < 108 ∨ 113 < l1.toInt) => absurd q (by rw [s1_0]; decide)) (fun _ => Exists.intro 101 (And.intro (show (#[101, 94, 108, 39, 60, 77] : Array Int)[(l1.toInt - 108).toNat]? = some 101 from by rw [s1_0]; rfl) ?_))
        refine zs_13_102 ?_
        repeat' first | refine And.intro rfl ?_ | refine And.intro (Or.inl rfl) ?_ | refine And.intro (Or.inr rfl) ?_ | refine And.intro (Nat.le_of_ble_eq_true rfl) ?_ | refine And.intro (And.intro rfl rfl) ?_ | exact rfl
        refine Exists.intro _ (Exists.intro _ (And.intro (zr_of F I J d l2 1) ?_))
        repeat' first | refine And.intro rfl ?_ | refine And.intro (Or.inl rfl) ?_ | refine And.intro (Or.inr rfl) ?_ | refine And.intro (Nat.le_of_ble_eq_true rfl) ?_ | refine And.intro (And.intro rfl rfl) ?_ | exact rfl
        cases hr
        repeat' first | refine And.intro rfl ?_ | refine And.intro (Or.inl rfl) ?_ | refine And.intro (Or.inr rfl) ?_ | refine And.intro (Nat.le_of_ble_eq_true rfl) ?_ | refine And.intro (And.intro rfl rfl) ?_ | exact rfl
      · rw [if_neg s1_0] at hr
        by_cases s1_1 : l1 = 109
        · rw [if_pos s1_1] at hr
          refine And.intro (fun (q : l1.toInt < 108 ∨ 113 < l1.toInt) => absurd q (by rw [s1_1]; decide)) (fun _ => Exists.intro 94 (And.intro (show (#[101, 94, 108, 39, 60, 77] : Array Int)[(l1.toInt - 108).toNat]? = some 94 from by rw [s1_1]; rfl) ?_))
          refine zs_13_95 ?_
          repeat' first | refine And.intro rfl ?_ | refine And.intro (Or.inl rfl) ?_ | refine And.intro (Or.inr rfl) ?_ | refine And.intro (Nat.le_of_ble_eq_true rfl) ?_ | refine And.intro (And.intro rfl rfl) ?_ | exact rfl
          refine Exists.intro _ (Exists.intro _ (And.intro (zr_of F I J d l3 1) ?_))
          repeat' first | refine And.intro rfl ?_ | refine And.intro (Or.inl rfl) ?_ | refine And.intro (Or.inr rfl) ?_ | refine And.intro (Nat.le_of_ble_eq_true rfl) ?_ | refine And.intro (And.intro rfl rfl) ?_ | exact rfl
          cases hr
          repeat' first | refine And.intro rfl ?_ | refine And.intro (Or.inl rfl) ?_ | refine And.intro (Or.inr rfl) ?_ | refine And.intro (Nat.le_of_ble_eq_true rfl) ?_ | refine And.intro (And.intro rfl rfl) ?_ | exact rfl
        · rw [if_neg s1_1] at hr
          by_cases s1_2 : l1 = 110
          · rw [if_pos s1_2] at hr
            refine And.intro (fun (q : l1.toInt < 108 ∨ 113 < l1.toInt) => absurd q (by rw [s1_2]; decide)) (fun _ => Exists.intro 108 (And.intro (show (#[101, 94, 108, 39, 60, 77] : Array Int)[(l1.toInt - 108).toNat]? = some 108 from by rw [s1_2]; rfl) ?_))
            exact zz_wk [true, false, false, true] rfl (ih109 _ _ _ _ _ _ hr)
          · rw [if_neg s1_2] at hr
            by_cases s1_3 : l1 = 111
            · rw [if_pos s1_3] at hr
              refine And.intro (fun (q : l1.toInt < 108 ∨ 113 < l1.toInt) => absurd q (by rw [s1_3]; decide)) (fun _ => Exists.intro 39 (And.intro (show (#[101, 94, 108, 39, 60, 77] : Array Int)[(l1.toInt - 108).toNat]? = some 39 from by rw [s1_3]; rfl) ?_))
              refine zs_13_40 ?_
              repeat' first | refine And.intro rfl ?_ | refine And.intro (Or.inl rfl) ?_ | refine And.intro (Or.inr rfl) ?_ | refine And.intro (Nat.le_of_ble_eq_true rfl) ?_ | refine And.intro (And.intro rfl rfl) ?_ | exact rfl
              refine Exists.intro _ (Exists.intro _ (And.intro (zr_of F I J d l2 0) ?_))
              repeat' first | refine And.intro rfl ?_ | refine And.intro (Or.inl rfl) ?_ | refine And.intro (Or.inr rfl) ?_ | refine And.intro (Nat.le_of_ble_eq_true rfl) ?_ | refine And.intro (And.intro rfl rfl) ?_ | exact rfl
              refine Exists.intro _ (Exists.intro _ (And.intro (zr_of F I J d l3 0) ?_))
              repeat' first | refine And.intro rfl ?_ | refine And.intro (Or.inl rfl) ?_ | refine And.intro (Or.inr rfl) ?_ | refine And.intro (Nat.le_of_ble_eq_true rfl) ?_ | refine And.intro (And.intro rfl rfl) ?_ | exact rfl
              refine And.intro (fun (h2 : ¬ (zz_f I l2 0) = (zz_f I l3 0)) => ?_) (fun (h2 : ¬ (¬ (zz_f I l2 0) = (zz_f I l3 0))) => ?_)
              · rw [if_pos h2] at hr
                refine zs_13_59 ?_
                repeat' first | refine And.intro rfl ?_ | refine And.intro (Or.inl rfl) ?_ | refine And.intro (Or.inr rfl) ?_ | refine And.intro (Nat.le_of_ble_eq_true rfl) ?_ | refine And.intro (And.intro rfl rfl) ?_ | exact rfl
                refine zs_13_60 ?_
                repeat' first | refine And.intro rfl ?_ | refine And.intro (Or.inl rfl) ?_ | refine And.intro (Or.inr rfl) ?_ | refine And.intro (Nat.le_of_ble_eq_true rfl) ?_ | refine And.intro (And.intro rfl rfl) ?_ | exact rfl
                cases hr
                repeat' first | refine And.intro rfl ?_ | refine And.intro (Or.inl rfl) ?_ | refine And.intro (Or.inr rfl) ?_ | refine And.intro (Nat.le_of_ble_eq_true rfl) ?_ | refine And.intro (And.intro rfl rfl) ?_ | exact rfl
              · rw [if_neg h2] at hr
                repeat' first | refine And.intro rfl ?_ | refine And.intro (Or.inl rfl) ?_ | refine And.intro (Or.inr rfl) ?_ | refine And.intro (Nat.le_of_ble_eq_true rfl) ?_ | refine And.intro (And.intro rfl rfl) ?_ | exact rfl
                refine zs_13_60 ?_
                repeat' first | refine And.intro rfl ?_ | refine And.intro (Or.inl rfl) ?_ | refine And.intro (Or.inr rfl) ?_ | refine And.intro (Nat.le_of_ble_eq_true rfl) ?_ | refine And.intro (And.intro rfl rfl) ?_ | exact rfl
                cases hr
                repeat' first | refine And.intro rfl ?_ | refine And.intro (Or.inl rfl) ?_ | refine And.intro (Or.inr rfl) ?_ | refine And.intro (Nat.le_of_ble_eq_true rfl) ?_ | refine And.intro (And.intro rfl rfl) ?_ | exact rfl
            · rw [if_neg s1_3] at hr
              by_cases s1_4 : l1 = 112
              · rw [if_pos s1_4] at hr
                refine And.intro (fun (q : l1.toInt < 108 ∨ 113 < l1.toInt) => absurd q (by rw [s1_4]; decide)) (fun _ => Exists.intro 60 (And.intro (show (#[101, 94, 108, 39, 60, 77] : Array Int)[(l1.toInt - 108).toNat]? = some 60 from by rw [s1_4]; rfl) ?_))
                refine zs_13_61 ?_
                repeat' first | refine And.intro rfl ?_ | refine And.intro (Or.inl rfl) ?_ | refine And.intro (Or.inr rfl) ?_ | refine And.intro (Nat.le_of_ble_eq_true rfl) ?_ | refine And.intro (And.intro rfl rfl) ?_ | exact rfl
                refine Exists.intro _ (Exists.intro _ (And.intro (zr_of F I J d l2 2) ?_))
                repeat' first | refine And.intro rfl ?_ | refine And.intro (Or.inl rfl) ?_ | refine And.intro (Or.inr rfl) ?_ | refine And.intro (Nat.le_of_ble_eq_true rfl) ?_ | refine And.intro (And.intro rfl rfl) ?_ | exact rfl
                refine Exists.intro _ (Exists.intro _ (And.intro (zr_of F I J d l3 2) ?_))
                repeat' first | refine And.intro rfl ?_ | refine And.intro (Or.inl rfl) ?_ | refine And.intro (Or.inr rfl) ?_ | refine And.intro (Nat.le_of_ble_eq_true rfl) ?_ | refine And.intro (And.intro rfl rfl) ?_ | exact rfl
                refine Exists.intro _ (Exists.intro _ (And.intro (zr_J6_bitCount F I J d ((zz_f I l2 2) &&& (zz_f I l3 2))) ?_))
                repeat' first | refine And.intro rfl ?_ | refine And.intro (Or.inl rfl) ?_ | refine And.intro (Or.inr rfl) ?_ | refine And.intro (Nat.le_of_ble_eq_true rfl) ?_ | refine And.intro (And.intro rfl rfl) ?_ | exact rfl
                cases hr
                repeat' first | refine And.intro rfl ?_ | refine And.intro (Or.inl rfl) ?_ | refine And.intro (Or.inr rfl) ?_ | refine And.intro (Nat.le_of_ble_eq_true rfl) ?_ | refine And.intro (And.intro rfl rfl) ?_ | exact rfl
              · rw [if_neg s1_4] at hr
                by_cases s1_5 : l1 = 113
                · rw [if_pos s1_5] at hr
                  refine And.intro (fun (q : l1.toInt < 108 ∨ 113 < l1.toInt) => absurd q (by rw [s1_5]; decide)) (fun _ => Exists.intro 77 (And.intro (show (#[101, 94, 108, 39, 60, 77] : Array Int)[(l1.toInt - 108).toNat]? = some 77 from by rw [s1_5]; rfl) ?_))
                  refine zs_13_78 ?_
                  repeat' first | refine And.intro rfl ?_ | refine And.intro (Or.inl rfl) ?_ | refine And.intro (Or.inr rfl) ?_ | refine And.intro (Nat.le_of_ble_eq_true rfl) ?_ | refine And.intro (And.intro rfl rfl) ?_ | exact rfl
                  refine Exists.intro _ (Exists.intro _ (And.intro (zr_of F I J d l2 3) ?_))
                  repeat' first | refine And.intro rfl ?_ | refine And.intro (Or.inl rfl) ?_ | refine And.intro (Or.inr rfl) ?_ | refine And.intro (Nat.le_of_ble_eq_true rfl) ?_ | refine And.intro (And.intro rfl rfl) ?_ | exact rfl
                  refine Exists.intro _ (Exists.intro _ (And.intro (zr_of F I J d l3 3) ?_))
                  repeat' first | refine And.intro rfl ?_ | refine And.intro (Or.inl rfl) ?_ | refine And.intro (Or.inr rfl) ?_ | refine And.intro (Nat.le_of_ble_eq_true rfl) ?_ | refine And.intro (And.intro rfl rfl) ?_ | exact rfl
                  refine Exists.intro _ (Exists.intro _ (And.intro (zr_J6_bitCount F I J d ((zz_f I l2 3) ^^^ (zz_f I l3 3))) ?_))
                  repeat' first | refine And.intro rfl ?_ | refine And.intro (Or.inl rfl) ?_ | refine And.intro (Or.inr rfl) ?_ | refine And.intro (Nat.le_of_ble_eq_true rfl) ?_ | refine And.intro (And.intro rfl rfl) ?_ | exact rfl
                  cases hr
                  repeat' first | refine And.intro rfl ?_ | refine And.intro (Or.inl rfl) ?_ | refine And.intro (Or.inr rfl) ?_ | refine And.intro (Nat.le_of_ble_eq_true rfl) ?_ | refine And.intro (And.intro rfl rfl) ?_ | exact rfl
                · rw [if_neg s1_5] at hr
                  have es1_0 : ¬ l1.toInt = 108 := fun q => s1_0 (zz_toI q rfl)
                  have es1_1 : ¬ l1.toInt = 109 := fun q => s1_1 (zz_toI q rfl)
                  have es1_2 : ¬ l1.toInt = 110 := fun q => s1_2 (zz_toI q rfl)
                  have es1_3 : ¬ l1.toInt = 111 := fun q => s1_3 (zz_toI q rfl)
                  have es1_4 : ¬ l1.toInt = 112 := fun q => s1_4 (zz_toI q rfl)
                  have es1_5 : ¬ l1.toInt = 113 := fun q => s1_5 (zz_toI q rfl)
                  refine And.intro (fun _ => ?_) (fun (q : ¬ (l1.toInt < 108 ∨ 113 < l1.toInt)) => absurd (by omega) q)
                  exact zz_wk [true, false, false, true] rfl (ih109 _ _ _ _ _ _ hr)
    · intro l1 l2 l3 I J r hr
      replace hr : zb_X1_thing__5_109 N (zl_X1_thing__5 N n) l1 l2 l3 I J = some r := hr
      unfold zb_X1_thing__5_109 at hr
      refine zs_13_109 ?_
      repeat' first | refine And.intro rfl ?_ | refine And.intro (Or.inl rfl) ?_ | refine And.intro (Or.inr rfl) ?_ | refine And.intro (Nat.le_of_ble_eq_true rfl) ?_ | refine And.intro (And.intro rfl rfl) ?_ | exact rfl
      refine Exists.intro _ (Exists.intro _ (And.intro (zr_of F I J d l3 2) ?_))
      repeat' first | refine And.intro rfl ?_ | refine And.intro (Or.inl rfl) ?_ | refine And.intro (Or.inr rfl) ?_ | refine And.intro (Nat.le_of_ble_eq_true rfl) ?_ | refine And.intro (And.intro rfl rfl) ?_ | exact rfl
      refine Exists.intro _ (Exists.intro _ (And.intro (zr_J6_bitCount F I J d (zz_f I l3 2)) ?_))
      repeat' first | refine And.intro rfl ?_ | refine And.intro (Or.inl rfl) ?_ | refine And.intro (Or.inr rfl) ?_ | refine And.intro (Nat.le_of_ble_eq_true rfl) ?_ | refine And.intro (And.intro rfl rfl) ?_ | exact rfl
      cases hr
      repeat' first | refine And.intro rfl ?_ | refine And.intro (Or.inl rfl) ?_ | refine And.intro (Or.inr rfl) ?_ | refine And.intro (Nat.le_of_ble_eq_true rfl) ?_ | refine And.intro (And.intro rfl rfl) ?_ | exact rfl
theorem zr_X1_thing__5 (F : zz_F) (I : Nat → Nat → Int32) (J : Nat → Nat → Int64) (d N : Nat) (l1 : Int32) (l2 : Int32) (l3 : Int32) (r : Int32 × (Nat → Nat → Int32) × (Nat → Nat → Int64)) (h : zf_X1_thing__5 N l1 l2 l3 I J = some r) : zz_run (d+1) 13 0 [some (.ref 5), some (.int (l1)), some (.int (l2)), some (.int (l3))] [] (zz_S F I J) (some (.int (r.1))) (zz_S F (I) (J)) := (zq_X1_thing__5 F d N N).1 l1 l2 l3 I J r h
def zb_X1_joined_0 (N : Nat) (rec : Nat → Int32 → Int32 → Int32 → (Nat → Nat → Int32) → (Nat → Nat → Int64) → Option (Int32 × (Nat → Nat → Int32) × (Nat → Nat → Int64))) (l0 : Int32) (l1 : Int32) (l2 : Int32) (I : Nat → Nat → Int32) (J : Nat → Nat → Int64) : Option (Int32 × (Nat → Nat → Int32) × (Nat → Nat → Int64)) := if l0 = 42 then (some (l1 * l2, I, J)) else (if l0 = 43 then (some (l1 + l2, I, J)) else (if l0 = 45 then (some (l1 - l2, I, J)) else (if l0 = 47 then (if ¬ l2 = 0 then (some (l1 / l2, I, J)) else (some (0, I, J))) else (if l0 = 60 then (if l2 ≤ l1 then (some (0, I, J)) else (some (1, I, J))) else (if l0 = 62 then (if l1 ≤ l2 then (some (0, I, J)) else (some (1, I, J))) else (if ¬ l1 = l2 then (some (0, I, J)) else (some (1, I, J))))))))
def zl_X1_joined (N : Nat) : Nat → Nat → Int32 → Int32 → Int32 → (Nat → Nat → Int32) → (Nat → Nat → Int64) → Option (Int32 × (Nat → Nat → Int32) × (Nat → Nat → Int64))
  | 0 => fun _ _ _ _ _ _ => none
  | n + 1 => fun pc l0 l1 l2 I J => if pc = 0 then zb_X1_joined_0 N (zl_X1_joined N n) l0 l1 l2 I J else none
def zf_X1_joined (N : Nat) (l0 : Int32) (l1 : Int32) (l2 : Int32) (I : Nat → Nat → Int32) (J : Nat → Nat → Int64) : Option (Int32 × (Nat → Nat → Int32) × (Nat → Nat → Int64)) := zl_X1_joined N N 0 l0 l1 l2 I J
theorem zq_X1_joined (F : zz_F) (d N : Nat) : ∀ n : Nat, (∀ (l0 : Int32) (l1 : Int32) (l2 : Int32) (I : Nat → Nat → Int32) (J : Nat → Nat → Int64) (r : Int32 × (Nat → Nat → Int32) × (Nat → Nat → Int64)), zl_X1_joined N n 0 l0 l1 l2 I J = some r → zz_run (d) 14 0 [some (.int (l0)), some (.int (l1)), some (.int (l2))] [] (zz_S F I J) (some (.int (r.1))) (zz_S F (I) (J))) := by
  intro n
  induction n with
  | zero => exact fun _ _ _ _ _ _ h => zz_no h
  | succ n ih =>
    have ih0 := ih
    skip
    · intro l0 l1 l2 I J r hr
      replace hr : zb_X1_joined_0 N (zl_X1_joined N n) l0 l1 l2 I J = some r := hr
      unfold zb_X1_joined_0 at hr
      refine zs_14_0 ?_
      repeat' first | refine And.intro rfl ?_ | refine And.intro (Or.inl rfl) ?_ | refine And.intro (Or.inr rfl) ?_ | refine And.intro (Nat.le_of_ble_eq_true rfl) ?_ | refine And.intro (And.intro rfl rfl) ?_ | exact rfl
      by_cases s1_0 : l0 = 42
      · rw [if_pos s1_0] at hr
        refine zz_sw (t' := 68) (show zz_t 1 (Op.lookupswitch.offset [(42, 67), (43, 59), (45, 63), (47, 71), (60, 83), (62, 94)] 105 l0.toInt) = 68 from by rw [s1_0]; rfl) ?_
        refine zs_14_68 ?_
        repeat' first | refine And.intro rfl ?_ | refine And.intro (Or.inl rfl) ?_ | refine And.intro (Or.inr rfl) ?_ | refine And.intro (Nat.le_of_ble_eq_true rfl) ?_ | refine And.intro (And.intro rfl rfl) ?_ | exact rfl
        cases hr
        repeat' first | refine And.intro rfl ?_ | refine And.intro (Or.inl rfl) ?_ | refine And.intro (Or.inr rfl) ?_ | refine And.intro (Nat.le_of_ble_eq_true rfl) ?_ | refine And.intro (And.intro rfl rfl) ?_ | exact rfl
      · rw [if_neg s1_0] at hr
        by_cases s1_1 : l0 = 43
        · rw [if_pos s1_1] at hr
          refine zz_sw (t' := 60) (show zz_t 1 (Op.lookupswitch.offset [(42, 67), (43, 59), (45, 63), (47, 71), (60, 83), (62, 94)] 105 l0.toInt) = 60 from by rw [s1_1]; rfl) ?_
          refine zs_14_60 ?_
          repeat' first | refine And.intro rfl ?_ | refine And.intro (Or.inl rfl) ?_ | refine And.intro (Or.inr rfl) ?_ | refine And.intro (Nat.le_of_ble_eq_true rfl) ?_ | refine And.intro (And.intro rfl rfl) ?_ | exact rfl
          cases hr
          repeat' first | refine And.intro rfl ?_ | refine And.intro (Or.inl rfl) ?_ | refine And.intro (Or.inr rfl) ?_ | refine And.intro (Nat.le_of_ble_eq_true rfl) ?_ | refine And.intro (And.intro rfl rfl) ?_ | exact rfl
        · rw [if_neg s1_1] at hr
          by_cases s1_2 : l0 = 45
          · rw [if_pos s1_2] at hr
            refine zz_sw (t' := 64) (show zz_t 1 (Op.lookupswitch.offset [(42, 67), (43, 59), (45, 63), (47, 71), (60, 83), (62, 94)] 105 l0.toInt) = 64 from by rw [s1_2]; rfl) ?_
            refine zs_14_64 ?_
            repeat' first | refine And.intro rfl ?_ | refine And.intro (Or.inl rfl) ?_ | refine And.intro (Or.inr rfl) ?_ | refine And.intro (Nat.le_of_ble_eq_true rfl) ?_ | refine And.intro (And.intro rfl rfl) ?_ | exact rfl
            cases hr
            repeat' first | refine And.intro rfl ?_ | refine And.intro (Or.inl rfl) ?_ | refine And.intro (Or.inr rfl) ?_ | refine And.intro (Nat.le_of_ble_eq_true rfl) ?_ | refine And.intro (And.intro rfl rfl) ?_ | exact rfl
          · rw [if_neg s1_2] at hr
            by_cases s1_3 : l0 = 47
            · rw [if_pos s1_3] at hr
              refine zz_sw (t' := 72) (show zz_t 1 (Op.lookupswitch.offset [(42, 67), (43, 59), (45, 63), (47, 71), (60, 83), (62, 94)] 105 l0.toInt) = 72 from by rw [s1_3]; rfl) ?_
              refine zs_14_72 ?_
              repeat' first | refine And.intro rfl ?_ | refine And.intro (Or.inl rfl) ?_ | refine And.intro (Or.inr rfl) ?_ | refine And.intro (Nat.le_of_ble_eq_true rfl) ?_ | refine And.intro (And.intro rfl rfl) ?_ | exact rfl
              refine And.intro (fun (h2 : ¬ l2 = 0) => ?_) (fun (h2 : ¬ (¬ l2 = 0)) => ?_)
              · rw [if_pos h2] at hr
                refine zs_14_80 ?_
                repeat' first | refine And.intro rfl ?_ | refine And.intro (Or.inl rfl) ?_ | refine And.intro (Or.inr rfl) ?_ | refine And.intro (Nat.le_of_ble_eq_true rfl) ?_ | refine And.intro (And.intro rfl rfl) ?_ | exact rfl
                refine And.intro (h2) ?_
                repeat' first | refine And.intro rfl ?_ | refine And.intro (Or.inl rfl) ?_ | refine And.intro (Or.inr rfl) ?_ | refine And.intro (Nat.le_of_ble_eq_true rfl) ?_ | refine And.intro (And.intro rfl rfl) ?_ | exact rfl
                refine zs_14_83 ?_
                repeat' first | refine And.intro rfl ?_ | refine And.intro (Or.inl rfl) ?_ | refine And.intro (Or.inr rfl) ?_ | refine And.intro (Nat.le_of_ble_eq_true rfl) ?_ | refine And.intro (And.intro rfl rfl) ?_ | exact rfl
                cases hr
                repeat' first | refine And.intro rfl ?_ | refine And.intro (Or.inl rfl) ?_ | refine And.intro (Or.inr rfl) ?_ | refine And.intro (Nat.le_of_ble_eq_true rfl) ?_ | refine And.intro (And.intro rfl rfl) ?_ | exact rfl
              · rw [if_neg h2] at hr
                repeat' first | refine And.intro rfl ?_ | refine And.intro (Or.inl rfl) ?_ | refine And.intro (Or.inr rfl) ?_ | refine And.intro (Nat.le_of_ble_eq_true rfl) ?_ | refine And.intro (And.intro rfl rfl) ?_ | exact rfl
                refine zs_14_83 ?_
                repeat' first | refine And.intro rfl ?_ | refine And.intro (Or.inl rfl) ?_ | refine And.intro (Or.inr rfl) ?_ | refine And.intro (Nat.le_of_ble_eq_true rfl) ?_ | refine And.intro (And.intro rfl rfl) ?_ | exact rfl
                cases hr
                repeat' first | refine And.intro rfl ?_ | refine And.intro (Or.inl rfl) ?_ | refine And.intro (Or.inr rfl) ?_ | refine And.intro (Nat.le_of_ble_eq_true rfl) ?_ | refine And.intro (And.intro rfl rfl) ?_ | exact rfl
            · rw [if_neg s1_3] at hr
              by_cases s1_4 : l0 = 60
              · rw [if_pos s1_4] at hr
                refine zz_sw (t' := 84) (show zz_t 1 (Op.lookupswitch.offset [(42, 67), (43, 59), (45, 63), (47, 71), (60, 83), (62, 94)] 105 l0.toInt) = 84 from by rw [s1_4]; rfl) ?_
                refine zs_14_84 ?_
                repeat' first | refine And.intro rfl ?_ | refine And.intro (Or.inl rfl) ?_ | refine And.intro (Or.inr rfl) ?_ | refine And.intro (Nat.le_of_ble_eq_true rfl) ?_ | refine And.intro (And.intro rfl rfl) ?_ | exact rfl
                refine And.intro (fun (h3 : l2 ≤ l1) => ?_) (fun (h3 : ¬ (l2 ≤ l1)) => ?_)
                · rw [if_pos h3] at hr
                  refine zs_14_93 ?_
                  repeat' first | refine And.intro rfl ?_ | refine And.intro (Or.inl rfl) ?_ | refine And.intro (Or.inr rfl) ?_ | refine And.intro (Nat.le_of_ble_eq_true rfl) ?_ | refine And.intro (And.intro rfl rfl) ?_ | exact rfl
                  refine zs_14_94 ?_
                  repeat' first | refine And.intro rfl ?_ | refine And.intro (Or.inl rfl) ?_ | refine And.intro (Or.inr rfl) ?_ | refine And.intro (Nat.le_of_ble_eq_true rfl) ?_ | refine And.intro (And.intro rfl rfl) ?_ | exact rfl
                  cases hr
                  repeat' first | refine And.intro rfl ?_ | refine And.intro (Or.inl rfl) ?_ | refine And.intro (Or.inr rfl) ?_ | refine And.intro (Nat.le_of_ble_eq_true rfl) ?_ | refine And.intro (And.intro rfl rfl) ?_ | exact rfl
                · rw [if_neg h3] at hr
                  repeat' first | refine And.intro rfl ?_ | refine And.intro (Or.inl rfl) ?_ | refine And.intro (Or.inr rfl) ?_ | refine And.intro (Nat.le_of_ble_eq_true rfl) ?_ | refine And.intro (And.intro rfl rfl) ?_ | exact rfl
                  refine zs_14_94 ?_
                  repeat' first | refine And.intro rfl ?_ | refine And.intro (Or.inl rfl) ?_ | refine And.intro (Or.inr rfl) ?_ | refine And.intro (Nat.le_of_ble_eq_true rfl) ?_ | refine And.intro (And.intro rfl rfl) ?_ | exact rfl
                  cases hr
                  repeat' first | refine And.intro rfl ?_ | refine And.intro (Or.inl rfl) ?_ | refine And.intro (Or.inr rfl) ?_ | refine And.intro (Nat.le_of_ble_eq_true rfl) ?_ | refine And.intro (And.intro rfl rfl) ?_ | exact rfl
              · rw [if_neg s1_4] at hr
                by_cases s1_5 : l0 = 62
                · rw [if_pos s1_5] at hr
                  refine zz_sw (t' := 95) (show zz_t 1 (Op.lookupswitch.offset [(42, 67), (43, 59), (45, 63), (47, 71), (60, 83), (62, 94)] 105 l0.toInt) = 95 from by rw [s1_5]; rfl) ?_
                  refine zs_14_95 ?_
                  repeat' first | refine And.intro rfl ?_ | refine And.intro (Or.inl rfl) ?_ | refine And.intro (Or.inr rfl) ?_ | refine And.intro (Nat.le_of_ble_eq_true rfl) ?_ | refine And.intro (And.intro rfl rfl) ?_ | exact rfl
                  refine And.intro (fun (h4 : l1 ≤ l2) => ?_) (fun (h4 : ¬ (l1 ≤ l2)) => ?_)
                  · rw [if_pos h4] at hr
                    refine zs_14_104 ?_
                    repeat' first | refine And.intro rfl ?_ | refine And.intro (Or.inl rfl) ?_ | refine And.intro (Or.inr rfl) ?_ | refine And.intro (Nat.le_of_ble_eq_true rfl) ?_ | refine And.intro (And.intro rfl rfl) ?_ | exact rfl
                    refine zs_14_105 ?_
                    repeat' first | refine And.intro rfl ?_ | refine And.intro (Or.inl rfl) ?_ | refine And.intro (Or.inr rfl) ?_ | refine And.intro (Nat.le_of_ble_eq_true rfl) ?_ | refine And.intro (And.intro rfl rfl) ?_ | exact rfl
                    cases hr
                    repeat' first | refine And.intro rfl ?_ | refine And.intro (Or.inl rfl) ?_ | refine And.intro (Or.inr rfl) ?_ | refine And.intro (Nat.le_of_ble_eq_true rfl) ?_ | refine And.intro (And.intro rfl rfl) ?_ | exact rfl
                  · rw [if_neg h4] at hr
                    repeat' first | refine And.intro rfl ?_ | refine And.intro (Or.inl rfl) ?_ | refine And.intro (Or.inr rfl) ?_ | refine And.intro (Nat.le_of_ble_eq_true rfl) ?_ | refine And.intro (And.intro rfl rfl) ?_ | exact rfl
                    refine zs_14_105 ?_
                    repeat' first | refine And.intro rfl ?_ | refine And.intro (Or.inl rfl) ?_ | refine And.intro (Or.inr rfl) ?_ | refine And.intro (Nat.le_of_ble_eq_true rfl) ?_ | refine And.intro (And.intro rfl rfl) ?_ | exact rfl
                    cases hr
                    repeat' first | refine And.intro rfl ?_ | refine And.intro (Or.inl rfl) ?_ | refine And.intro (Or.inr rfl) ?_ | refine And.intro (Nat.le_of_ble_eq_true rfl) ?_ | refine And.intro (And.intro rfl rfl) ?_ | exact rfl
                · rw [if_neg s1_5] at hr
                  have es1_0 : ¬ (42 : Int) = l0.toInt := fun q => s1_0 (zz_toI q.symm rfl)
                  have es1_1 : ¬ (43 : Int) = l0.toInt := fun q => s1_1 (zz_toI q.symm rfl)
                  have es1_2 : ¬ (45 : Int) = l0.toInt := fun q => s1_2 (zz_toI q.symm rfl)
                  have es1_3 : ¬ (47 : Int) = l0.toInt := fun q => s1_3 (zz_toI q.symm rfl)
                  have es1_4 : ¬ (60 : Int) = l0.toInt := fun q => s1_4 (zz_toI q.symm rfl)
                  have es1_5 : ¬ (62 : Int) = l0.toInt := fun q => s1_5 (zz_toI q.symm rfl)
                  refine zz_sw (t' := 106) (show zz_t 1 (Op.lookupswitch.offset [(42, 67), (43, 59), (45, 63), (47, 71), (60, 83), (62, 94)] 105 l0.toInt) = 106 from by simp only [Op.lookupswitch.offset, if_neg es1_0, if_neg es1_1, if_neg es1_2, if_neg es1_3, if_neg es1_4, if_neg es1_5]; rfl) ?_
                  refine zs_14_106 ?_
                  repeat' first | refine And.intro rfl ?_ | refine And.intro (Or.inl rfl) ?_ | refine And.intro (Or.inr rfl) ?_ | refine And.intro (Nat.le_of_ble_eq_true rfl) ?_ | refine And.intro (And.intro rfl rfl) ?_ | exact rfl
                  refine And.intro (fun (h5 : ¬ l1 = l2) => ?_) (fun (h5 : ¬ (¬ l1 = l2)) => ?_)
                  · rw [if_pos h5] at hr
                    refine zs_14_115 ?_
                    repeat' first | refine And.intro rfl ?_ | refine And.intro (Or.inl rfl) ?_ | refine And.intro (Or.inr rfl) ?_ | refine And.intro (Nat.le_of_ble_eq_true rfl) ?_ | refine And.intro (And.intro rfl rfl) ?_ | exact rfl
                    refine zs_14_116 ?_
                    repeat' first | refine And.intro rfl ?_ | refine And.intro (Or.inl rfl) ?_ | refine And.intro (Or.inr rfl) ?_ | refine And.intro (Nat.le_of_ble_eq_true rfl) ?_ | refine And.intro (And.intro rfl rfl) ?_ | exact rfl
                    cases hr
                    repeat' first | refine And.intro rfl ?_ | refine And.intro (Or.inl rfl) ?_ | refine And.intro (Or.inr rfl) ?_ | refine And.intro (Nat.le_of_ble_eq_true rfl) ?_ | refine And.intro (And.intro rfl rfl) ?_ | exact rfl
                  · rw [if_neg h5] at hr
                    repeat' first | refine And.intro rfl ?_ | refine And.intro (Or.inl rfl) ?_ | refine And.intro (Or.inr rfl) ?_ | refine And.intro (Nat.le_of_ble_eq_true rfl) ?_ | refine And.intro (And.intro rfl rfl) ?_ | exact rfl
                    refine zs_14_116 ?_
                    repeat' first | refine And.intro rfl ?_ | refine And.intro (Or.inl rfl) ?_ | refine And.intro (Or.inr rfl) ?_ | refine And.intro (Nat.le_of_ble_eq_true rfl) ?_ | refine And.intro (And.intro rfl rfl) ?_ | exact rfl
                    cases hr
                    repeat' first | refine And.intro rfl ?_ | refine And.intro (Or.inl rfl) ?_ | refine And.intro (Or.inr rfl) ?_ | refine And.intro (Nat.le_of_ble_eq_true rfl) ?_ | refine And.intro (And.intro rfl rfl) ?_ | exact rfl
theorem zr_X1_joined (F : zz_F) (I : Nat → Nat → Int32) (J : Nat → Nat → Int64) (d N : Nat) (l0 : Int32) (l1 : Int32) (l2 : Int32) (r : Int32 × (Nat → Nat → Int32) × (Nat → Nat → Int64)) (h : zf_X1_joined N l0 l1 l2 I J = some r) : zz_run (d) 14 0 [some (.int (l0)), some (.int (l1)), some (.int (l2))] [] (zz_S F I J) (some (.int (r.1))) (zz_S F (I) (J)) := (zq_X1_joined F d N N) l0 l1 l2 I J r h
def zb_X2_scenesWith_0 (N : Nat) (rec : Nat → Int32 → Int32 → Int32 → (Nat → Nat → Int32) → (Nat → Nat → Int64) → Option (Int32 × (Nat → Nat → Int32) × (Nat → Nat → Int64))) (l1 : Int32) (l2 : Int32) (l3 : Int32) (I : Nat → Nat → Int32) (J : Nat → Nat → Int64) : Option (Int32 × (Nat → Nat → Int32) × (Nat → Nat → Int64)) := rec 4 l1 0 0 I J
def zb_X2_scenesWith_4 (N : Nat) (rec : Nat → Int32 → Int32 → Int32 → (Nat → Nat → Int32) → (Nat → Nat → Int64) → Option (Int32 × (Nat → Nat → Int32) × (Nat → Nat → Int64))) (l1 : Int32) (l2 : Int32) (l3 : Int32) (I : Nat → Nat → Int32) (J : Nat → Nat → Int64) : Option (Int32 × (Nat → Nat → Int32) × (Nat → Nat → Int64)) := if (I 5 2) ≤ l3 then (some (l2, I, J)) else (if ((zz_f I l3 2) &&& l1) = 0 then (rec 4 l1 l2 (l3 + 1) I J) else (rec 4 l1 (l2 ||| ((1 : Int32) <<< (l3 &&& 31))) (l3 + 1) I J))
def zl_X2_scenesWith (N : Nat) : Nat → Nat → Int32 → Int32 → Int32 → (Nat → Nat → Int32) → (Nat → Nat → Int64) → Option (Int32 × (Nat → Nat → Int32) × (Nat → Nat → Int64))
  | 0 => fun _ _ _ _ _ _ => none
  | n + 1 => fun pc l1 l2 l3 I J => if pc = 0 then zb_X2_scenesWith_0 N (zl_X2_scenesWith N n) l1 l2 l3 I J else (if pc = 4 then zb_X2_scenesWith_4 N (zl_X2_scenesWith N n) l1 l2 l3 I J else none)
def zf_X2_scenesWith (N : Nat) (l1 : Int32) (I : Nat → Nat → Int32) (J : Nat → Nat → Int64) : Option (Int32 × (Nat → Nat → Int32) × (Nat → Nat → Int64)) := zl_X2_scenesWith N N 0 l1 0 0 I J
theorem zq_X2_scenesWith (F : zz_F) (d N : Nat) : ∀ n : Nat, (∀ (l1 : Int32) (l2 : Int32) (l3 : Int32) (I : Nat → Nat → Int32) (J : Nat → Nat → Int64) (r : Int32 × (Nat → Nat → Int32) × (Nat → Nat → Int64)), zl_X2_scenesWith N n 0 l1 l2 l3 I J = some r → zz_run (d+1) 16 0 [some (.ref 49), some (.int (l1)), none, none] [] (zz_S F I J) (some (.int (r.1))) (zz_S F (I) (J))) ∧ (∀ (l1 : Int32) (l2 : Int32) (l3 : Int32) (I : Nat → Nat → Int32) (J : Nat → Nat → Int64) (r : Int32 × (Nat → Nat → Int32) × (Nat → Nat → Int64)), zl_X2_scenesWith N n 4 l1 l2 l3 I J = some r → zz_run (d+1) 16 4 [some (.ref 49), some (.int (l1)), some (.int (l2)), some (.int (l3))] [] (zz_S F I J) (some (.int (r.1))) (zz_S F (I) (J))) := by
  intro n
  induction n with
  | zero => exact ⟨fun _ _ _ _ _ _ h => zz_no h, fun _ _ _ _ _ _ h => zz_no h⟩
  | succ n ih =>
    obtain ⟨ih0, ih4⟩ := ih
    refine ⟨?_, ?_⟩
    · intro l1 l2 l3 I J r hr
      replace hr : zb_X2_scenesWith_0 N (zl_X2_scenesWith N n) l1 l2 l3 I J = some r := hr
      unfold zb_X2_scenesWith_0 at hr
      refine zs_16_0 ?_
      repeat' first | refine And.intro rfl ?_ | refine And.intro (Or.inl rfl) ?_ | refine And.intro (Or.inr rfl) ?_ | refine And.intro (Nat.le_of_ble_eq_true rfl) ?_ | refine And.intro (And.intro rfl rfl) ?_ | exact rfl
      exact zz_wk [true, true, true, true] rfl (ih4 _ _ _ _ _ _ hr)
    · intro l1 l2 l3 I J r hr
      replace hr : zb_X2_scenesWith_4 N (zl_X2_scenesWith N n) l1 l2 l3 I J = some r := hr
      unfold zb_X2_scenesWith_4 at hr
      refine zs_16_4 ?_
      repeat' first | refine And.intro rfl ?_ | refine And.intro (Or.inl rfl) ?_ | refine And.intro (Or.inr rfl) ?_ | refine And.intro (Nat.le_of_ble_eq_true rfl) ?_ | refine And.intro (And.intro rfl rfl) ?_ | exact rfl
      refine And.intro (fun (h1 : (I 5 2) ≤ l3) => ?_) (fun (h1 : ¬ ((I 5 2) ≤ l3)) => ?_)
      · rw [if_pos h1] at hr
        refine zs_16_41 ?_
        repeat' first | refine And.intro rfl ?_ | refine And.intro (Or.inl rfl) ?_ | refine And.intro (Or.inr rfl) ?_ | refine And.intro (Nat.le_of_ble_eq_true rfl) ?_ | refine And.intro (And.intro rfl rfl) ?_ | exact rfl
        cases hr
        repeat' first | refine And.intro rfl ?_ | refine And.intro (Or.inl rfl) ?_ | refine And.intro (Or.inr rfl) ?_ | refine And.intro (Nat.le_of_ble_eq_true rfl) ?_ | refine And.intro (And.intro rfl rfl) ?_ | exact rfl
      · rw [if_neg h1] at hr
        repeat' first | refine And.intro rfl ?_ | refine And.intro (Or.inl rfl) ?_ | refine And.intro (Or.inr rfl) ?_ | refine And.intro (Nat.le_of_ble_eq_true rfl) ?_ | refine And.intro (And.intro rfl rfl) ?_ | exact rfl
        refine Exists.intro _ (Exists.intro _ (And.intro (zr_of F I J d l3 2) ?_))
        repeat' first | refine And.intro rfl ?_ | refine And.intro (Or.inl rfl) ?_ | refine And.intro (Or.inr rfl) ?_ | refine And.intro (Nat.le_of_ble_eq_true rfl) ?_ | refine And.intro (And.intro rfl rfl) ?_ | exact rfl
        refine And.intro (fun (h2 : ((zz_f I l3 2) &&& l1) = 0) => ?_) (fun (h2 : ¬ (((zz_f I l3 2) &&& l1) = 0)) => ?_)
        · rw [if_pos h2] at hr
          refine zs_16_35 ?_
          repeat' first | refine And.intro rfl ?_ | refine And.intro (Or.inl rfl) ?_ | refine And.intro (Or.inr rfl) ?_ | refine And.intro (Nat.le_of_ble_eq_true rfl) ?_ | refine And.intro (And.intro rfl rfl) ?_ | exact rfl
          exact zz_wk [true, true, true, true] rfl (ih4 _ _ _ _ _ _ hr)
        · rw [if_neg h2] at hr
          repeat' first | refine And.intro rfl ?_ | refine And.intro (Or.inl rfl) ?_ | refine And.intro (Or.inr rfl) ?_ | refine And.intro (Nat.le_of_ble_eq_true rfl) ?_ | refine And.intro (And.intro rfl rfl) ?_ | exact rfl
          refine zs_16_35 ?_
          repeat' first | refine And.intro rfl ?_ | refine And.intro (Or.inl rfl) ?_ | refine And.intro (Or.inr rfl) ?_ | refine And.intro (Nat.le_of_ble_eq_true rfl) ?_ | refine And.intro (And.intro rfl rfl) ?_ | exact rfl
          exact zz_wk [true, true, true, true] rfl (ih4 _ _ _ _ _ _ hr)
theorem zr_X2_scenesWith (F : zz_F) (I : Nat → Nat → Int32) (J : Nat → Nat → Int64) (d N : Nat) (l1 : Int32) (r : Int32 × (Nat → Nat → Int32) × (Nat → Nat → Int64)) (h : zf_X2_scenesWith N l1 I J = some r) : zz_run (d+1) 16 0 [some (.ref 49), some (.int (l1)), none, none] [] (zz_S F I J) (some (.int (r.1))) (zz_S F (I) (J)) := (zq_X2_scenesWith F d N N).1 l1 0 0 I J r h
def zb_X2_propsInAll_0 (N : Nat) (rec : Nat → Int32 → Int32 → Int32 → (Nat → Nat → Int32) → (Nat → Nat → Int64) → Option (Int32 × (Nat → Nat → Int32) × (Nat → Nat → Int64))) (l1 : Int32) (l2 : Int32) (l3 : Int32) (I : Nat → Nat → Int32) (J : Nat → Nat → Int64) : Option (Int32 × (Nat → Nat → Int32) × (Nat → Nat → Int64)) := rec 5 l1 15 0 I J
def zb_X2_propsInAll_5 (N : Nat) (rec : Nat → Int32 → Int32 → Int32 → (Nat → Nat → Int32) → (Nat → Nat → Int64) → Option (Int32 × (Nat → Nat → Int32) × (Nat → Nat → Int64))) (l1 : Int32) (l2 : Int32) (l3 : Int32) (I : Nat → Nat → Int32) (J : Nat → Nat → Int64) : Option (Int32 × (Nat → Nat → Int32) × (Nat → Nat → Int64)) := if (I 5 2) ≤ l3 then (some (l2, I, J)) else (if ¬ ((l1 >>> (l3 &&& 31)) &&& 1) = 1 then (rec 5 l1 l2 (l3 + 1) I J) else (rec 5 l1 (l2 &&& (zz_f I l3 3)) (l3 + 1) I J))
def zl_X2_propsInAll (N : Nat) : Nat → Nat → Int32 → Int32 → Int32 → (Nat → Nat → Int32) → (Nat → Nat → Int64) → Option (Int32 × (Nat → Nat → Int32) × (Nat → Nat → Int64))
  | 0 => fun _ _ _ _ _ _ => none
  | n + 1 => fun pc l1 l2 l3 I J => if pc = 0 then zb_X2_propsInAll_0 N (zl_X2_propsInAll N n) l1 l2 l3 I J else (if pc = 5 then zb_X2_propsInAll_5 N (zl_X2_propsInAll N n) l1 l2 l3 I J else none)
def zf_X2_propsInAll (N : Nat) (l1 : Int32) (I : Nat → Nat → Int32) (J : Nat → Nat → Int64) : Option (Int32 × (Nat → Nat → Int32) × (Nat → Nat → Int64)) := zl_X2_propsInAll N N 0 l1 0 0 I J
theorem zq_X2_propsInAll (F : zz_F) (d N : Nat) : ∀ n : Nat, (∀ (l1 : Int32) (l2 : Int32) (l3 : Int32) (I : Nat → Nat → Int32) (J : Nat → Nat → Int64) (r : Int32 × (Nat → Nat → Int32) × (Nat → Nat → Int64)), zl_X2_propsInAll N n 0 l1 l2 l3 I J = some r → zz_run (d+1) 17 0 [some (.ref 49), some (.int (l1)), none, none] [] (zz_S F I J) (some (.int (r.1))) (zz_S F (I) (J))) ∧ (∀ (l1 : Int32) (l2 : Int32) (l3 : Int32) (I : Nat → Nat → Int32) (J : Nat → Nat → Int64) (r : Int32 × (Nat → Nat → Int32) × (Nat → Nat → Int64)), zl_X2_propsInAll N n 5 l1 l2 l3 I J = some r → zz_run (d+1) 17 5 [some (.ref 49), some (.int (l1)), some (.int (l2)), some (.int (l3))] [] (zz_S F I J) (some (.int (r.1))) (zz_S F (I) (J))) := by
  intro n
  induction n with
  | zero => exact ⟨fun _ _ _ _ _ _ h => zz_no h, fun _ _ _ _ _ _ h => zz_no h⟩
  | succ n ih =>
    obtain ⟨ih0, ih5⟩ := ih
    refine ⟨?_, ?_⟩
    · intro l1 l2 l3 I J r hr
      replace hr : zb_X2_propsInAll_0 N (zl_X2_propsInAll N n) l1 l2 l3 I J = some r := hr
      unfold zb_X2_propsInAll_0 at hr
      refine zs_17_0 ?_
      repeat' first | refine And.intro rfl ?_ | refine And.intro (Or.inl rfl) ?_ | refine And.intro (Or.inr rfl) ?_ | refine And.intro (Nat.le_of_ble_eq_true rfl) ?_ | refine And.intro (And.intro rfl rfl) ?_ | exact rfl
      exact zz_wk [true, true, true, true] rfl (ih5 _ _ _ _ _ _ hr)
    · intro l1 l2 l3 I J r hr
      replace hr : zb_X2_propsInAll_5 N (zl_X2_propsInAll N n) l1 l2 l3 I J = some r := hr
      unfold zb_X2_propsInAll_5 at hr
      refine zs_17_5 ?_
      repeat' first | refine And.intro rfl ?_ | refine And.intro (Or.inl rfl) ?_ | refine And.intro (Or.inr rfl) ?_ | refine And.intro (Nat.le_of_ble_eq_true rfl) ?_ | refine And.intro (And.intro rfl rfl) ?_ | exact rfl
      refine And.intro (fun (h1 : (I 5 2) ≤ l3) => ?_) (fun (h1 : ¬ ((I 5 2) ≤ l3)) => ?_)
      · rw [if_pos h1] at hr
        refine zs_17_43 ?_
        repeat' first | refine And.intro rfl ?_ | refine And.intro (Or.inl rfl) ?_ | refine And.intro (Or.inr rfl) ?_ | refine And.intro (Nat.le_of_ble_eq_true rfl) ?_ | refine And.intro (And.intro rfl rfl) ?_ | exact rfl
        cases hr
        repeat' first | refine And.intro rfl ?_ | refine And.intro (Or.inl rfl) ?_ | refine And.intro (Or.inr rfl) ?_ | refine And.intro (Nat.le_of_ble_eq_true rfl) ?_ | refine And.intro (And.intro rfl rfl) ?_ | exact rfl
      · rw [if_neg h1] at hr
        repeat' first | refine And.intro rfl ?_ | refine And.intro (Or.inl rfl) ?_ | refine And.intro (Or.inr rfl) ?_ | refine And.intro (Nat.le_of_ble_eq_true rfl) ?_ | refine And.intro (And.intro rfl rfl) ?_ | exact rfl
        refine And.intro (fun (h2 : ¬ ((l1 >>> (l3 &&& 31)) &&& 1) = 1) => ?_) (fun (h2 : ¬ (¬ ((l1 >>> (l3 &&& 31)) &&& 1) = 1)) => ?_)
        · rw [if_pos h2] at hr
          refine zs_17_37 ?_
          repeat' first | refine And.intro rfl ?_ | refine And.intro (Or.inl rfl) ?_ | refine And.intro (Or.inr rfl) ?_ | refine And.intro (Nat.le_of_ble_eq_true rfl) ?_ | refine And.intro (And.intro rfl rfl) ?_ | exact rfl
          exact zz_wk [true, true, true, true] rfl (ih5 _ _ _ _ _ _ hr)
        · rw [if_neg h2] at hr
          repeat' first | refine And.intro rfl ?_ | refine And.intro (Or.inl rfl) ?_ | refine And.intro (Or.inr rfl) ?_ | refine And.intro (Nat.le_of_ble_eq_true rfl) ?_ | refine And.intro (And.intro rfl rfl) ?_ | exact rfl
          refine Exists.intro _ (Exists.intro _ (And.intro (zr_of F I J d l3 3) ?_))
          repeat' first | refine And.intro rfl ?_ | refine And.intro (Or.inl rfl) ?_ | refine And.intro (Or.inr rfl) ?_ | refine And.intro (Nat.le_of_ble_eq_true rfl) ?_ | refine And.intro (And.intro rfl rfl) ?_ | exact rfl
          refine zs_17_37 ?_
          repeat' first | refine And.intro rfl ?_ | refine And.intro (Or.inl rfl) ?_ | refine And.intro (Or.inr rfl) ?_ | refine And.intro (Nat.le_of_ble_eq_true rfl) ?_ | refine And.intro (And.intro rfl rfl) ?_ | exact rfl
          exact zz_wk [true, true, true, true] rfl (ih5 _ _ _ _ _ _ hr)
theorem zr_X2_propsInAll (F : zz_F) (I : Nat → Nat → Int32) (J : Nat → Nat → Int64) (d N : Nat) (l1 : Int32) (r : Int32 × (Nat → Nat → Int32) × (Nat → Nat → Int64)) (h : zf_X2_propsInAll N l1 I J = some r) : zz_run (d+1) 17 0 [some (.ref 49), some (.int (l1)), none, none] [] (zz_S F I J) (some (.int (r.1))) (zz_S F (I) (J)) := (zq_X2_propsInAll F d N N).1 l1 0 0 I J r h
def zb_X2_fewestAsked_0 (N : Nat) (rec : Nat → Int32 → Int32 → Int32 → Int32 → Int32 → (Nat → Nat → Int32) → (Nat → Nat → Int64) → Option (Int32 × (Nat → Nat → Int32) × (Nat → Nat → Int64))) (l1 : Int32) (l2 : Int32) (l3 : Int32) (l4 : Int32) (l5 : Int32) (I : Nat → Nat → Int32) (J : Nat → Nat → Int64) : Option (Int32 × (Nat → Nat → Int32) × (Nat → Nat → Int64)) := (zf_X2_scenesWith N 63 I J).bind fun r1 => rec 16 0 (l1 &&& r1.1) 63 63 0 I J
def zb_X2_fewestAsked_16 (N : Nat) (rec : Nat → Int32 → Int32 → Int32 → Int32 → Int32 → (Nat → Nat → Int32) → (Nat → Nat → Int64) → Option (Int32 × (Nat → Nat → Int32) × (Nat → Nat → Int64))) (l1 : Int32) (l2 : Int32) (l3 : Int32) (l4 : Int32) (l5 : Int32) (I : Nat → Nat → Int32) (J : Nat → Nat → Int64) : Option (Int32 × (Nat → Nat → Int32) × (Nat → Nat → Int64)) := if l4 < 0 then (some (l3, I, J)) else ((zf_X2_scenesWith N l4 I J).bind fun r2 => if ¬ (l2 &&& (r2.1 ^^^ ((-1)))) = 0 then (if (0 : Int32) = 0 then (rec 16 0 l2 l3 (l4 + (-1)) 0 I J) else (if (zv_J6_bitCount l3) < (zv_J6_bitCount l4) then (rec 16 0 l2 l3 (l4 + (-1)) 0 I J) else (rec 16 0 l2 l4 (l4 + (-1)) 0 I J))) else (if (1 : Int32) = 0 then (rec 16 0 l2 l3 (l4 + (-1)) 0 I J) else (if (zv_J6_bitCount l3) < (zv_J6_bitCount l4) then (rec 16 0 l2 l3 (l4 + (-1)) 0 I J) else (rec 16 0 l2 l4 (l4 + (-1)) 0 I J))))
def zl_X2_fewestAsked (N : Nat) : Nat → Nat → Int32 → Int32 → Int32 → Int32 → Int32 → (Nat → Nat → Int32) → (Nat → Nat → Int64) → Option (Int32 × (Nat → Nat → Int32) × (Nat → Nat → Int64))
  | 0 => fun _ _ _ _ _ _ _ _ => none
  | n + 1 => fun pc l1 l2 l3 l4 l5 I J => if pc = 0 then zb_X2_fewestAsked_0 N (zl_X2_fewestAsked N n) l1 l2 l3 l4 l5 I J else (if pc = 16 then zb_X2_fewestAsked_16 N (zl_X2_fewestAsked N n) l1 l2 l3 l4 l5 I J else none)
def zf_X2_fewestAsked (N : Nat) (l1 : Int32) (I : Nat → Nat → Int32) (J : Nat → Nat → Int64) : Option (Int32 × (Nat → Nat → Int32) × (Nat → Nat → Int64)) := zl_X2_fewestAsked N N 0 l1 0 0 0 0 I J
theorem zq_X2_fewestAsked (F : zz_F) (d N : Nat) : ∀ n : Nat, (∀ (l1 : Int32) (l2 : Int32) (l3 : Int32) (l4 : Int32) (l5 : Int32) (I : Nat → Nat → Int32) (J : Nat → Nat → Int64) (r : Int32 × (Nat → Nat → Int32) × (Nat → Nat → Int64)), zl_X2_fewestAsked N n 0 l1 l2 l3 l4 l5 I J = some r → zz_run (d+2) 18 0 [some (.ref 49), some (.int (l1)), none, none, none, none] [] (zz_S F I J) (some (.int (r.1))) (zz_S F (I) (J))) ∧ (∀ (l1 : Int32) (l2 : Int32) (l3 : Int32) (l4 : Int32) (l5 : Int32) (I : Nat → Nat → Int32) (J : Nat → Nat → Int64) (r : Int32 × (Nat → Nat → Int32) × (Nat → Nat → Int64)), zl_X2_fewestAsked N n 16 l1 l2 l3 l4 l5 I J = some r → zz_run (d+2) 18 16 [some (.ref 49), none, some (.int (l2)), some (.int (l3)), some (.int (l4)), none] [] (zz_S F I J) (some (.int (r.1))) (zz_S F (I) (J))) := by
  intro n
  induction n with
  | zero => exact ⟨fun _ _ _ _ _ _ _ _ h => zz_no h, fun _ _ _ _ _ _ _ _ h => zz_no h⟩
  | succ n ih =>
    obtain ⟨ih0, ih16⟩ := ih
    refine ⟨?_, ?_⟩
    · intro l1 l2 l3 l4 l5 I J r hr
      replace hr : zb_X2_fewestAsked_0 N (zl_X2_fewestAsked N n) l1 l2 l3 l4 l5 I J = some r := hr
      unfold zb_X2_fewestAsked_0 at hr
      refine zs_18_0 ?_
      repeat' first | refine And.intro rfl ?_ | refine And.intro (Or.inl rfl) ?_ | refine And.intro (Or.inr rfl) ?_ | refine And.intro (Nat.le_of_ble_eq_true rfl) ?_ | refine And.intro (And.intro rfl rfl) ?_ | exact rfl
      obtain ⟨r1, cr1, hr⟩ := Option.bind_eq_some_iff.mp hr
      refine Exists.intro _ (Exists.intro _ (And.intro (zr_X2_scenesWith F I J d N 63 r1 cr1) ?_))
      repeat' first | refine And.intro rfl ?_ | refine And.intro (Or.inl rfl) ?_ | refine And.intro (Or.inr rfl) ?_ | refine And.intro (Nat.le_of_ble_eq_true rfl) ?_ | refine And.intro (And.intro rfl rfl) ?_ | exact rfl
      exact zz_wk [true, false, true, true, true, false] rfl (ih16 _ _ _ _ _ _ _ _ hr)
    · intro l1 l2 l3 l4 l5 I J r hr
      replace hr : zb_X2_fewestAsked_16 N (zl_X2_fewestAsked N n) l1 l2 l3 l4 l5 I J = some r := hr
      unfold zb_X2_fewestAsked_16 at hr
      refine zs_18_16 ?_
      repeat' first | refine And.intro rfl ?_ | refine And.intro (Or.inl rfl) ?_ | refine And.intro (Or.inr rfl) ?_ | refine And.intro (Nat.le_of_ble_eq_true rfl) ?_ | refine And.intro (And.intro rfl rfl) ?_ | exact rfl
      refine And.intro (fun (h1 : l4 < 0) => ?_) (fun (h1 : ¬ (l4 < 0)) => ?_)
      · rw [if_pos h1] at hr
        refine zs_18_67 ?_
        repeat' first | refine And.intro rfl ?_ | refine And.intro (Or.inl rfl) ?_ | refine And.intro (Or.inr rfl) ?_ | refine And.intro (Nat.le_of_ble_eq_true rfl) ?_ | refine And.intro (And.intro rfl rfl) ?_ | exact rfl
        cases hr
        repeat' first | refine And.intro rfl ?_ | refine And.intro (Or.inl rfl) ?_ | refine And.intro (Or.inr rfl) ?_ | refine And.intro (Nat.le_of_ble_eq_true rfl) ?_ | refine And.intro (And.intro rfl rfl) ?_ | exact rfl
      · rw [if_neg h1] at hr
        repeat' first | refine And.intro rfl ?_ | refine And.intro (Or.inl rfl) ?_ | refine And.intro (Or.inr rfl) ?_ | refine And.intro (Nat.le_of_ble_eq_true rfl) ?_ | refine And.intro (And.intro rfl rfl) ?_ | exact rfl
        obtain ⟨r2, cr2, hr⟩ := Option.bind_eq_some_iff.mp hr
        refine Exists.intro _ (Exists.intro _ (And.intro (zr_X2_scenesWith F I J d N l4 r2 cr2) ?_))
        repeat' first | refine And.intro rfl ?_ | refine And.intro (Or.inl rfl) ?_ | refine And.intro (Or.inr rfl) ?_ | refine And.intro (Nat.le_of_ble_eq_true rfl) ?_ | refine And.intro (And.intro rfl rfl) ?_ | exact rfl
        refine And.intro (fun (h2 : ¬ (l2 &&& (r2.1 ^^^ ((-1)))) = 0) => ?_) (fun (h2 : ¬ (¬ (l2 &&& (r2.1 ^^^ ((-1)))) = 0)) => ?_)
        · rw [if_pos h2] at hr
          refine zs_18_38 ?_
          repeat' first | refine And.intro rfl ?_ | refine And.intro (Or.inl rfl) ?_ | refine And.intro (Or.inr rfl) ?_ | refine And.intro (Nat.le_of_ble_eq_true rfl) ?_ | refine And.intro (And.intro rfl rfl) ?_ | exact rfl
          refine zs_18_39 ?_
          repeat' first | refine And.intro rfl ?_ | refine And.intro (Or.inl rfl) ?_ | refine And.intro (Or.inr rfl) ?_ | refine And.intro (Nat.le_of_ble_eq_true rfl) ?_ | refine And.intro (And.intro rfl rfl) ?_ | exact rfl
          refine And.intro (fun (h3 : (0 : Int32) = 0) => ?_) (fun (h3 : ¬ ((0 : Int32) = 0)) => ?_)
          · rw [if_pos h3] at hr
            refine zs_18_61 ?_
            repeat' first | refine And.intro rfl ?_ | refine And.intro (Or.inl rfl) ?_ | refine And.intro (Or.inr rfl) ?_ | refine And.intro (Nat.le_of_ble_eq_true rfl) ?_ | refine And.intro (And.intro rfl rfl) ?_ | exact rfl
            exact zz_wk [true, false, true, true, true, false] rfl (ih16 _ _ _ _ _ _ _ _ hr)
          · rw [if_neg h3] at hr
            repeat' first | refine And.intro rfl ?_ | refine And.intro (Or.inl rfl) ?_ | refine And.intro (Or.inr rfl) ?_ | refine And.intro (Nat.le_of_ble_eq_true rfl) ?_ | refine And.intro (And.intro rfl rfl) ?_ | exact rfl
            refine Exists.intro _ (Exists.intro _ (And.intro (zr_J6_bitCount F I J (d+1) l4) ?_))
            repeat' first | refine And.intro rfl ?_ | refine And.intro (Or.inl rfl) ?_ | refine And.intro (Or.inr rfl) ?_ | refine And.intro (Nat.le_of_ble_eq_true rfl) ?_ | refine And.intro (And.intro rfl rfl) ?_ | exact rfl
            refine Exists.intro _ (Exists.intro _ (And.intro (zr_J6_bitCount F I J (d+1) l3) ?_))
            repeat' first | refine And.intro rfl ?_ | refine And.intro (Or.inl rfl) ?_ | refine And.intro (Or.inr rfl) ?_ | refine And.intro (Nat.le_of_ble_eq_true rfl) ?_ | refine And.intro (And.intro rfl rfl) ?_ | exact rfl
            refine And.intro (fun (h4 : (zv_J6_bitCount l3) < (zv_J6_bitCount l4)) => ?_) (fun (h4 : ¬ ((zv_J6_bitCount l3) < (zv_J6_bitCount l4))) => ?_)
            · rw [if_pos h4] at hr
              refine zs_18_61 ?_
              repeat' first | refine And.intro rfl ?_ | refine And.intro (Or.inl rfl) ?_ | refine And.intro (Or.inr rfl) ?_ | refine And.intro (Nat.le_of_ble_eq_true rfl) ?_ | refine And.intro (And.intro rfl rfl) ?_ | exact rfl
              exact zz_wk [true, false, true, true, true, false] rfl (ih16 _ _ _ _ _ _ _ _ hr)
            · rw [if_neg h4] at hr
              repeat' first | refine And.intro rfl ?_ | refine And.intro (Or.inl rfl) ?_ | refine And.intro (Or.inr rfl) ?_ | refine And.intro (Nat.le_of_ble_eq_true rfl) ?_ | refine And.intro (And.intro rfl rfl) ?_ | exact rfl
              refine zs_18_61 ?_
              repeat' first | refine And.intro rfl ?_ | refine And.intro (Or.inl rfl) ?_ | refine And.intro (Or.inr rfl) ?_ | refine And.intro (Nat.le_of_ble_eq_true rfl) ?_ | refine And.intro (And.intro rfl rfl) ?_ | exact rfl
              exact zz_wk [true, false, true, true, true, false] rfl (ih16 _ _ _ _ _ _ _ _ hr)
        · rw [if_neg h2] at hr
          repeat' first | refine And.intro rfl ?_ | refine And.intro (Or.inl rfl) ?_ | refine And.intro (Or.inr rfl) ?_ | refine And.intro (Nat.le_of_ble_eq_true rfl) ?_ | refine And.intro (And.intro rfl rfl) ?_ | exact rfl
          refine zs_18_39 ?_
          repeat' first | refine And.intro rfl ?_ | refine And.intro (Or.inl rfl) ?_ | refine And.intro (Or.inr rfl) ?_ | refine And.intro (Nat.le_of_ble_eq_true rfl) ?_ | refine And.intro (And.intro rfl rfl) ?_ | exact rfl
          refine And.intro (fun (h5 : (1 : Int32) = 0) => ?_) (fun (h5 : ¬ ((1 : Int32) = 0)) => ?_)
          · rw [if_pos h5] at hr
            refine zs_18_61 ?_
            repeat' first | refine And.intro rfl ?_ | refine And.intro (Or.inl rfl) ?_ | refine And.intro (Or.inr rfl) ?_ | refine And.intro (Nat.le_of_ble_eq_true rfl) ?_ | refine And.intro (And.intro rfl rfl) ?_ | exact rfl
            exact zz_wk [true, false, true, true, true, false] rfl (ih16 _ _ _ _ _ _ _ _ hr)
          · rw [if_neg h5] at hr
            repeat' first | refine And.intro rfl ?_ | refine And.intro (Or.inl rfl) ?_ | refine And.intro (Or.inr rfl) ?_ | refine And.intro (Nat.le_of_ble_eq_true rfl) ?_ | refine And.intro (And.intro rfl rfl) ?_ | exact rfl
            refine Exists.intro _ (Exists.intro _ (And.intro (zr_J6_bitCount F I J (d+1) l4) ?_))
            repeat' first | refine And.intro rfl ?_ | refine And.intro (Or.inl rfl) ?_ | refine And.intro (Or.inr rfl) ?_ | refine And.intro (Nat.le_of_ble_eq_true rfl) ?_ | refine And.intro (And.intro rfl rfl) ?_ | exact rfl
            refine Exists.intro _ (Exists.intro _ (And.intro (zr_J6_bitCount F I J (d+1) l3) ?_))
            repeat' first | refine And.intro rfl ?_ | refine And.intro (Or.inl rfl) ?_ | refine And.intro (Or.inr rfl) ?_ | refine And.intro (Nat.le_of_ble_eq_true rfl) ?_ | refine And.intro (And.intro rfl rfl) ?_ | exact rfl
            refine And.intro (fun (h6 : (zv_J6_bitCount l3) < (zv_J6_bitCount l4)) => ?_) (fun (h6 : ¬ ((zv_J6_bitCount l3) < (zv_J6_bitCount l4))) => ?_)
            · rw [if_pos h6] at hr
              refine zs_18_61 ?_
              repeat' first | refine And.intro rfl ?_ | refine And.intro (Or.inl rfl) ?_ | refine And.intro (Or.inr rfl) ?_ | refine And.intro (Nat.le_of_ble_eq_true rfl) ?_ | refine And.intro (And.intro rfl rfl) ?_ | exact rfl
              exact zz_wk [true, false, true, true, true, false] rfl (ih16 _ _ _ _ _ _ _ _ hr)
            · rw [if_neg h6] at hr
              repeat' first | refine And.intro rfl ?_ | refine And.intro (Or.inl rfl) ?_ | refine And.intro (Or.inr rfl) ?_ | refine And.intro (Nat.le_of_ble_eq_true rfl) ?_ | refine And.intro (And.intro rfl rfl) ?_ | exact rfl
              refine zs_18_61 ?_
              repeat' first | refine And.intro rfl ?_ | refine And.intro (Or.inl rfl) ?_ | refine And.intro (Or.inr rfl) ?_ | refine And.intro (Nat.le_of_ble_eq_true rfl) ?_ | refine And.intro (And.intro rfl rfl) ?_ | exact rfl
              exact zz_wk [true, false, true, true, true, false] rfl (ih16 _ _ _ _ _ _ _ _ hr)
theorem zr_X2_fewestAsked (F : zz_F) (I : Nat → Nat → Int32) (J : Nat → Nat → Int64) (d N : Nat) (l1 : Int32) (r : Int32 × (Nat → Nat → Int32) × (Nat → Nat → Int64)) (h : zf_X2_fewestAsked N l1 I J = some r) : zz_run (d+2) 18 0 [some (.ref 49), some (.int (l1)), none, none, none, none] [] (zz_S F I J) (some (.int (r.1))) (zz_S F (I) (J)) := (zq_X2_fewestAsked F d N N).1 l1 0 0 0 0 I J r h
def zb_X2_weightOfSet_0 (N : Nat) (rec : Nat → Int32 → Int32 → Int32 → Int32 → (Nat → Nat → Int32) → (Nat → Nat → Int64) → Option (Int32 × (Nat → Nat → Int32) × (Nat → Nat → Int64))) (l0 : Int32) (l1 : Int32) (l2 : Int32) (l3 : Int32) (I : Nat → Nat → Int32) (J : Nat → Nat → Int64) : Option (Int32 × (Nat → Nat → Int32) × (Nat → Nat → Int64)) := rec 4 l0 l1 1 0 I J
def zb_X2_weightOfSet_4 (N : Nat) (rec : Nat → Int32 → Int32 → Int32 → Int32 → (Nat → Nat → Int32) → (Nat → Nat → Int64) → Option (Int32 × (Nat → Nat → Int32) × (Nat → Nat → Int64))) (l0 : Int32) (l1 : Int32) (l2 : Int32) (l3 : Int32) (I : Nat → Nat → Int32) (J : Nat → Nat → Int64) : Option (Int32 × (Nat → Nat → Int32) × (Nat → Nat → Int64)) := if 6 ≤ l3 then (some (l2, I, J)) else (if ¬ ((l0 >>> (l3 &&& 31)) &&& 1) = 1 then (rec 4 l0 l1 (l2 * l1) (l3 + 1) I J) else (rec 4 l0 l1 (l2 * (10 - l1)) (l3 + 1) I J))
def zl_X2_weightOfSet (N : Nat) : Nat → Nat → Int32 → Int32 → Int32 → Int32 → (Nat → Nat → Int32) → (Nat → Nat → Int64) → Option (Int32 × (Nat → Nat → Int32) × (Nat → Nat → Int64))
  | 0 => fun _ _ _ _ _ _ _ => none
  | n + 1 => fun pc l0 l1 l2 l3 I J => if pc = 0 then zb_X2_weightOfSet_0 N (zl_X2_weightOfSet N n) l0 l1 l2 l3 I J else (if pc = 4 then zb_X2_weightOfSet_4 N (zl_X2_weightOfSet N n) l0 l1 l2 l3 I J else none)
def zf_X2_weightOfSet (N : Nat) (l0 : Int32) (l1 : Int32) (I : Nat → Nat → Int32) (J : Nat → Nat → Int64) : Option (Int32 × (Nat → Nat → Int32) × (Nat → Nat → Int64)) := zl_X2_weightOfSet N N 0 l0 l1 0 0 I J
theorem zq_X2_weightOfSet (F : zz_F) (d N : Nat) : ∀ n : Nat, (∀ (l0 : Int32) (l1 : Int32) (l2 : Int32) (l3 : Int32) (I : Nat → Nat → Int32) (J : Nat → Nat → Int64) (r : Int32 × (Nat → Nat → Int32) × (Nat → Nat → Int64)), zl_X2_weightOfSet N n 0 l0 l1 l2 l3 I J = some r → zz_run (d) 20 0 [some (.int (l0)), some (.int (l1)), none, none] [] (zz_S F I J) (some (.int (r.1))) (zz_S F (I) (J))) ∧ (∀ (l0 : Int32) (l1 : Int32) (l2 : Int32) (l3 : Int32) (I : Nat → Nat → Int32) (J : Nat → Nat → Int64) (r : Int32 × (Nat → Nat → Int32) × (Nat → Nat → Int64)), zl_X2_weightOfSet N n 4 l0 l1 l2 l3 I J = some r → zz_run (d) 20 4 [some (.int (l0)), some (.int (l1)), some (.int (l2)), some (.int (l3))] [] (zz_S F I J) (some (.int (r.1))) (zz_S F (I) (J))) := by
  intro n
  induction n with
  | zero => exact ⟨fun _ _ _ _ _ _ _ h => zz_no h, fun _ _ _ _ _ _ _ h => zz_no h⟩
  | succ n ih =>
    obtain ⟨ih0, ih4⟩ := ih
    refine ⟨?_, ?_⟩
    · intro l0 l1 l2 l3 I J r hr
      replace hr : zb_X2_weightOfSet_0 N (zl_X2_weightOfSet N n) l0 l1 l2 l3 I J = some r := hr
      unfold zb_X2_weightOfSet_0 at hr
      refine zs_20_0 ?_
      repeat' first | refine And.intro rfl ?_ | refine And.intro (Or.inl rfl) ?_ | refine And.intro (Or.inr rfl) ?_ | refine And.intro (Nat.le_of_ble_eq_true rfl) ?_ | refine And.intro (And.intro rfl rfl) ?_ | exact rfl
      exact zz_wk [true, true, true, true] rfl (ih4 _ _ _ _ _ _ _ hr)
    · intro l0 l1 l2 l3 I J r hr
      replace hr : zb_X2_weightOfSet_4 N (zl_X2_weightOfSet N n) l0 l1 l2 l3 I J = some r := hr
      unfold zb_X2_weightOfSet_4 at hr
      refine zs_20_4 ?_
      repeat' first | refine And.intro rfl ?_ | refine And.intro (Or.inl rfl) ?_ | refine And.intro (Or.inr rfl) ?_ | refine And.intro (Nat.le_of_ble_eq_true rfl) ?_ | refine And.intro (And.intro rfl rfl) ?_ | exact rfl
      refine And.intro (fun (h1 : 6 ≤ l3) => ?_) (fun (h1 : ¬ (6 ≤ l3)) => ?_)
      · rw [if_pos h1] at hr
        refine zs_20_36 ?_
        repeat' first | refine And.intro rfl ?_ | refine And.intro (Or.inl rfl) ?_ | refine And.intro (Or.inr rfl) ?_ | refine And.intro (Nat.le_of_ble_eq_true rfl) ?_ | refine And.intro (And.intro rfl rfl) ?_ | exact rfl
        cases hr
        repeat' first | refine And.intro rfl ?_ | refine And.intro (Or.inl rfl) ?_ | refine And.intro (Or.inr rfl) ?_ | refine And.intro (Nat.le_of_ble_eq_true rfl) ?_ | refine And.intro (And.intro rfl rfl) ?_ | exact rfl
      · rw [if_neg h1] at hr
        repeat' first | refine And.intro rfl ?_ | refine And.intro (Or.inl rfl) ?_ | refine And.intro (Or.inr rfl) ?_ | refine And.intro (Nat.le_of_ble_eq_true rfl) ?_ | refine And.intro (And.intro rfl rfl) ?_ | exact rfl
        refine And.intro (fun (h2 : ¬ ((l0 >>> (l3 &&& 31)) &&& 1) = 1) => ?_) (fun (h2 : ¬ (¬ ((l0 >>> (l3 &&& 31)) &&& 1) = 1)) => ?_)
        · rw [if_pos h2] at hr
          refine zs_20_27 ?_
          repeat' first | refine And.intro rfl ?_ | refine And.intro (Or.inl rfl) ?_ | refine And.intro (Or.inr rfl) ?_ | refine And.intro (Nat.le_of_ble_eq_true rfl) ?_ | refine And.intro (And.intro rfl rfl) ?_ | exact rfl
          refine zs_20_28 ?_
          repeat' first | refine And.intro rfl ?_ | refine And.intro (Or.inl rfl) ?_ | refine And.intro (Or.inr rfl) ?_ | refine And.intro (Nat.le_of_ble_eq_true rfl) ?_ | refine And.intro (And.intro rfl rfl) ?_ | exact rfl
          exact zz_wk [true, true, true, true] rfl (ih4 _ _ _ _ _ _ _ hr)
        · rw [if_neg h2] at hr
          repeat' first | refine And.intro rfl ?_ | refine And.intro (Or.inl rfl) ?_ | refine And.intro (Or.inr rfl) ?_ | refine And.intro (Nat.le_of_ble_eq_true rfl) ?_ | refine And.intro (And.intro rfl rfl) ?_ | exact rfl
          refine zs_20_28 ?_
          repeat' first | refine And.intro rfl ?_ | refine And.intro (Or.inl rfl) ?_ | refine And.intro (Or.inr rfl) ?_ | refine And.intro (Nat.le_of_ble_eq_true rfl) ?_ | refine And.intro (And.intro rfl rfl) ?_ | exact rfl
          exact zz_wk [true, true, true, true] rfl (ih4 _ _ _ _ _ _ _ hr)
theorem zr_X2_weightOfSet (F : zz_F) (I : Nat → Nat → Int32) (J : Nat → Nat → Int64) (d N : Nat) (l0 : Int32) (l1 : Int32) (r : Int32 × (Nat → Nat → Int32) × (Nat → Nat → Int64)) (h : zf_X2_weightOfSet N l0 l1 I J = some r) : zz_run (d) 20 0 [some (.int (l0)), some (.int (l1)), none, none] [] (zz_S F I J) (some (.int (r.1))) (zz_S F (I) (J)) := (zq_X2_weightOfSet F d N N).1 l0 l1 0 0 I J r h
def zb_X2_heaviestCount_0 (N : Nat) (rec : Nat → Int32 → Int32 → (Nat → Nat → Int32) → (Nat → Nat → Int64) → Option (Int32 × (Nat → Nat → Int32) × (Nat → Nat → Int64))) (l1 : Int32) (l2 : Int32) (I : Nat → Nat → Int32) (J : Nat → Nat → Int64) : Option (Int32 × (Nat → Nat → Int32) × (Nat → Nat → Int64)) := rec 4 0 1 I J
def zb_X2_heaviestCount_4 (N : Nat) (rec : Nat → Int32 → Int32 → (Nat → Nat → Int32) → (Nat → Nat → Int64) → Option (Int32 × (Nat → Nat → Int32) × (Nat → Nat → Int64))) (l1 : Int32) (l2 : Int32) (I : Nat → Nat → Int32) (J : Nat → Nat → Int64) : Option (Int32 × (Nat → Nat → Int32) × (Nat → Nat → Int64)) := if (nI 13) ≤ l2 then (some (l1, I, J)) else (if ¬ (l2 < 0 ∨ 13 ≤ l2.toNatClampNeg) then (if ¬ (l1 < 0 ∨ 13 ≤ l1.toNatClampNeg) then (if (I 50 l2.toNatClampNeg) ≤ (I 50 l1.toNatClampNeg) then (rec 4 l1 (l2 + 1) I J) else (rec 4 l2 (l2 + 1) I J)) else none) else none)
def zl_X2_heaviestCount (N : Nat) : Nat → Nat → Int32 → Int32 → (Nat → Nat → Int32) → (Nat → Nat → Int64) → Option (Int32 × (Nat → Nat → Int32) × (Nat → Nat → Int64))
  | 0 => fun _ _ _ _ _ => none
  | n + 1 => fun pc l1 l2 I J => if pc = 0 then zb_X2_heaviestCount_0 N (zl_X2_heaviestCount N n) l1 l2 I J else (if pc = 4 then zb_X2_heaviestCount_4 N (zl_X2_heaviestCount N n) l1 l2 I J else none)
def zf_X2_heaviestCount (N : Nat)  (I : Nat → Nat → Int32) (J : Nat → Nat → Int64) : Option (Int32 × (Nat → Nat → Int32) × (Nat → Nat → Int64)) := zl_X2_heaviestCount N N 0 0 0 I J
theorem zq_X2_heaviestCount (F : zz_F) (d N : Nat) : ∀ n : Nat, (∀ (l1 : Int32) (l2 : Int32) (I : Nat → Nat → Int32) (J : Nat → Nat → Int64) (r : Int32 × (Nat → Nat → Int32) × (Nat → Nat → Int64)), zl_X2_heaviestCount N n 0 l1 l2 I J = some r → zz_run (d) 21 0 [some (.ref 49), none, none] [] (zz_S F I J) (some (.int (r.1))) (zz_S F (I) (J))) ∧ (∀ (l1 : Int32) (l2 : Int32) (I : Nat → Nat → Int32) (J : Nat → Nat → Int64) (r : Int32 × (Nat → Nat → Int32) × (Nat → Nat → Int64)), zl_X2_heaviestCount N n 4 l1 l2 I J = some r → zz_run (d) 21 4 [some (.ref 49), some (.int (l1)), some (.int (l2))] [] (zz_S F I J) (some (.int (r.1))) (zz_S F (I) (J))) := by
  intro n
  induction n with
  | zero => exact ⟨fun _ _ _ _ _ h => zz_no h, fun _ _ _ _ _ h => zz_no h⟩
  | succ n ih =>
    obtain ⟨ih0, ih4⟩ := ih
    refine ⟨?_, ?_⟩
    · intro l1 l2 I J r hr
      replace hr : zb_X2_heaviestCount_0 N (zl_X2_heaviestCount N n) l1 l2 I J = some r := hr
      unfold zb_X2_heaviestCount_0 at hr
      refine zs_21_0 ?_
      repeat' first | refine And.intro rfl ?_ | refine And.intro (Or.inl rfl) ?_ | refine And.intro (Or.inr rfl) ?_ | refine And.intro (Nat.le_of_ble_eq_true rfl) ?_ | refine And.intro (And.intro rfl rfl) ?_ | exact rfl
      exact zz_wk [true, true, true] rfl (ih4 _ _ _ _ _ hr)
    · intro l1 l2 I J r hr
      replace hr : zb_X2_heaviestCount_4 N (zl_X2_heaviestCount N n) l1 l2 I J = some r := hr
      unfold zb_X2_heaviestCount_4 at hr
      refine zs_21_4 ?_
      repeat' first | refine And.intro rfl ?_ | refine And.intro (Or.inl rfl) ?_ | refine And.intro (Or.inr rfl) ?_ | refine And.intro (Nat.le_of_ble_eq_true rfl) ?_ | refine And.intro (And.intro rfl rfl) ?_ | exact rfl
      refine And.intro (fun (h1 : (nI 13) ≤ l2) => ?_) (fun (h1 : ¬ ((nI 13) ≤ l2)) => ?_)
      · rw [if_pos h1] at hr
        refine zs_21_36 ?_
        repeat' first | refine And.intro rfl ?_ | refine And.intro (Or.inl rfl) ?_ | refine And.intro (Or.inr rfl) ?_ | refine And.intro (Nat.le_of_ble_eq_true rfl) ?_ | refine And.intro (And.intro rfl rfl) ?_ | exact rfl
        cases hr
        repeat' first | refine And.intro rfl ?_ | refine And.intro (Or.inl rfl) ?_ | refine And.intro (Or.inr rfl) ?_ | refine And.intro (Nat.le_of_ble_eq_true rfl) ?_ | refine And.intro (And.intro rfl rfl) ?_ | exact rfl
      · rw [if_neg h1] at hr
        repeat' first | refine And.intro rfl ?_ | refine And.intro (Or.inl rfl) ?_ | refine And.intro (Or.inr rfl) ?_ | refine And.intro (Nat.le_of_ble_eq_true rfl) ?_ | refine And.intro (And.intro rfl rfl) ?_ | exact rfl
        have g1 : ¬ (l2 < 0 ∨ 13 ≤ l2.toNatClampNeg) := zz_g hr
        replace hr := zz_gt hr
        refine And.intro (g1) ?_
        repeat' first | refine And.intro rfl ?_ | refine And.intro (Or.inl rfl) ?_ | refine And.intro (Or.inr rfl) ?_ | refine And.intro (Nat.le_of_ble_eq_true rfl) ?_ | refine And.intro (And.intro rfl rfl) ?_ | exact rfl
        have g2 : ¬ (l1 < 0 ∨ 13 ≤ l1.toNatClampNeg) := zz_g hr
        replace hr := zz_gt hr
        refine And.intro (g2) ?_
        repeat' first | refine And.intro rfl ?_ | refine And.intro (Or.inl rfl) ?_ | refine And.intro (Or.inr rfl) ?_ | refine And.intro (Nat.le_of_ble_eq_true rfl) ?_ | refine And.intro (And.intro rfl rfl) ?_ | exact rfl
        refine And.intro (fun (h2 : (I 50 l2.toNatClampNeg) ≤ (I 50 l1.toNatClampNeg)) => ?_) (fun (h2 : ¬ ((I 50 l2.toNatClampNeg) ≤ (I 50 l1.toNatClampNeg))) => ?_)
        · rw [if_pos h2] at hr
          refine zs_21_30 ?_
          repeat' first | refine And.intro rfl ?_ | refine And.intro (Or.inl rfl) ?_ | refine And.intro (Or.inr rfl) ?_ | refine And.intro (Nat.le_of_ble_eq_true rfl) ?_ | refine And.intro (And.intro rfl rfl) ?_ | exact rfl
          exact zz_wk [true, true, true] rfl (ih4 _ _ _ _ _ hr)
        · rw [if_neg h2] at hr
          repeat' first | refine And.intro rfl ?_ | refine And.intro (Or.inl rfl) ?_ | refine And.intro (Or.inr rfl) ?_ | refine And.intro (Nat.le_of_ble_eq_true rfl) ?_ | refine And.intro (And.intro rfl rfl) ?_ | exact rfl
          refine zs_21_30 ?_
          repeat' first | refine And.intro rfl ?_ | refine And.intro (Or.inl rfl) ?_ | refine And.intro (Or.inr rfl) ?_ | refine And.intro (Nat.le_of_ble_eq_true rfl) ?_ | refine And.intro (And.intro rfl rfl) ?_ | exact rfl
          exact zz_wk [true, true, true] rfl (ih4 _ _ _ _ _ hr)
theorem zr_X2_heaviestCount (F : zz_F) (I : Nat → Nat → Int32) (J : Nat → Nat → Int64) (d N : Nat)  (r : Int32 × (Nat → Nat → Int32) × (Nat → Nat → Int64)) (h : zf_X2_heaviestCount N  I J = some r) : zz_run (d) 21 0 [some (.ref 49), none, none] [] (zz_S F I J) (some (.int (r.1))) (zz_S F (I) (J)) := (zq_X2_heaviestCount F d N N).1 0 0 I J r h
def zb_X2_weightOfAll_0 (N : Nat) (rec : Nat → Int32 → Int32 → (Nat → Nat → Int32) → (Nat → Nat → Int64) → Option (Int32 × (Nat → Nat → Int32) × (Nat → Nat → Int64))) (l1 : Int32) (l2 : Int32) (I : Nat → Nat → Int32) (J : Nat → Nat → Int64) : Option (Int32 × (Nat → Nat → Int32) × (Nat → Nat → Int64)) := rec 4 1 0 I J
def zb_X2_weightOfAll_4 (N : Nat) (rec : Nat → Int32 → Int32 → (Nat → Nat → Int32) → (Nat → Nat → Int64) → Option (Int32 × (Nat → Nat → Int32) × (Nat → Nat → Int64))) (l1 : Int32) (l2 : Int32) (I : Nat → Nat → Int32) (J : Nat → Nat → Int64) : Option (Int32 × (Nat → Nat → Int32) × (Nat → Nat → Int64)) := if 6 ≤ l2 then (some (l1, I, J)) else (rec 4 (l1 * 10) (l2 + 1) I J)
def zl_X2_weightOfAll (N : Nat) : Nat → Nat → Int32 → Int32 → (Nat → Nat → Int32) → (Nat → Nat → Int64) → Option (Int32 × (Nat → Nat → Int32) × (Nat → Nat → Int64))
  | 0 => fun _ _ _ _ _ => none
  | n + 1 => fun pc l1 l2 I J => if pc = 0 then zb_X2_weightOfAll_0 N (zl_X2_weightOfAll N n) l1 l2 I J else (if pc = 4 then zb_X2_weightOfAll_4 N (zl_X2_weightOfAll N n) l1 l2 I J else none)
def zf_X2_weightOfAll (N : Nat)  (I : Nat → Nat → Int32) (J : Nat → Nat → Int64) : Option (Int32 × (Nat → Nat → Int32) × (Nat → Nat → Int64)) := zl_X2_weightOfAll N N 0 0 0 I J
theorem zq_X2_weightOfAll (F : zz_F) (d N : Nat) : ∀ n : Nat, (∀ (l1 : Int32) (l2 : Int32) (I : Nat → Nat → Int32) (J : Nat → Nat → Int64) (r : Int32 × (Nat → Nat → Int32) × (Nat → Nat → Int64)), zl_X2_weightOfAll N n 0 l1 l2 I J = some r → zz_run (d) 23 0 [some (.ref 49), none, none] [] (zz_S F I J) (some (.int (r.1))) (zz_S F (I) (J))) ∧ (∀ (l1 : Int32) (l2 : Int32) (I : Nat → Nat → Int32) (J : Nat → Nat → Int64) (r : Int32 × (Nat → Nat → Int32) × (Nat → Nat → Int64)), zl_X2_weightOfAll N n 4 l1 l2 I J = some r → zz_run (d) 23 4 [some (.ref 49), some (.int (l1)), some (.int (l2))] [] (zz_S F I J) (some (.int (r.1))) (zz_S F (I) (J))) := by
  intro n
  induction n with
  | zero => exact ⟨fun _ _ _ _ _ h => zz_no h, fun _ _ _ _ _ h => zz_no h⟩
  | succ n ih =>
    obtain ⟨ih0, ih4⟩ := ih
    refine ⟨?_, ?_⟩
    · intro l1 l2 I J r hr
      replace hr : zb_X2_weightOfAll_0 N (zl_X2_weightOfAll N n) l1 l2 I J = some r := hr
      unfold zb_X2_weightOfAll_0 at hr
      refine zs_23_0 ?_
      repeat' first | refine And.intro rfl ?_ | refine And.intro (Or.inl rfl) ?_ | refine And.intro (Or.inr rfl) ?_ | refine And.intro (Nat.le_of_ble_eq_true rfl) ?_ | refine And.intro (And.intro rfl rfl) ?_ | exact rfl
      exact zz_wk [true, true, true] rfl (ih4 _ _ _ _ _ hr)
    · intro l1 l2 I J r hr
      replace hr : zb_X2_weightOfAll_4 N (zl_X2_weightOfAll N n) l1 l2 I J = some r := hr
      unfold zb_X2_weightOfAll_4 at hr
      refine zs_23_4 ?_
      repeat' first | refine And.intro rfl ?_ | refine And.intro (Or.inl rfl) ?_ | refine And.intro (Or.inr rfl) ?_ | refine And.intro (Nat.le_of_ble_eq_true rfl) ?_ | refine And.intro (And.intro rfl rfl) ?_ | exact rfl
      refine And.intro (fun (h1 : 6 ≤ l2) => ?_) (fun (h1 : ¬ (6 ≤ l2)) => ?_)
      · rw [if_pos h1] at hr
        refine zs_23_21 ?_
        repeat' first | refine And.intro rfl ?_ | refine And.intro (Or.inl rfl) ?_ | refine And.intro (Or.inr rfl) ?_ | refine And.intro (Nat.le_of_ble_eq_true rfl) ?_ | refine And.intro (And.intro rfl rfl) ?_ | exact rfl
        cases hr
        repeat' first | refine And.intro rfl ?_ | refine And.intro (Or.inl rfl) ?_ | refine And.intro (Or.inr rfl) ?_ | refine And.intro (Nat.le_of_ble_eq_true rfl) ?_ | refine And.intro (And.intro rfl rfl) ?_ | exact rfl
      · rw [if_neg h1] at hr
        repeat' first | refine And.intro rfl ?_ | refine And.intro (Or.inl rfl) ?_ | refine And.intro (Or.inr rfl) ?_ | refine And.intro (Nat.le_of_ble_eq_true rfl) ?_ | refine And.intro (And.intro rfl rfl) ?_ | exact rfl
        exact zz_wk [true, true, true] rfl (ih4 _ _ _ _ _ hr)
theorem zr_X2_weightOfAll (F : zz_F) (I : Nat → Nat → Int32) (J : Nat → Nat → Int64) (d N : Nat)  (r : Int32 × (Nat → Nat → Int32) × (Nat → Nat → Int64)) (h : zf_X2_weightOfAll N  I J = some r) : zz_run (d) 23 0 [some (.ref 49), none, none] [] (zz_S F I J) (some (.int (r.1))) (zz_S F (I) (J)) := (zq_X2_weightOfAll F d N N).1 0 0 I J r h
