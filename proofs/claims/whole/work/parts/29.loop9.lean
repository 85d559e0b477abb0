/-! methods with loops, printed by wip/whole/loop.py -/
def zb_X1_worth_32__5_0 (N : Nat) (rec : Nat → Int32 → Int32 → Int32 → Int32 → Int32 → (Nat → Nat → Int32) → (Nat → Nat → Int64) → Option (Int32 × (Nat → Nat → Int32) × (Nat → Nat → Int64))) (l2 : Int32) (l3 : Int32) (l4 : Int32) (l5 : Int32) (l6 : Int32) (I : Nat → Nat → Int32) (J : Nat → Nat → Int64) : Option (Int32 × (Nat → Nat → Int32) × (Nat → Nat → Int64)) := rec 6 l2 l3 0 0 0 I J
def zb_X1_worth_32__5_6 (N : Nat) (rec : Nat → Int32 → Int32 → Int32 → Int32 → Int32 → (Nat → Nat → Int32) → (Nat → Nat → Int64) → Option (Int32 × (Nat → Nat → Int32) × (Nat → Nat → Int64))) (l2 : Int32) (l3 : Int32) (l4 : Int32) (l5 : Int32) (l6 : Int32) (I : Nat → Nat → Int32) (J : Nat → Nat → Int64) : Option (Int32 × (Nat → Nat → Int32) × (Nat → Nat → Int64)) := if (I 32 3) ≤ l5 then (rec 185 0 0 l4 0 0 I J) else (if (nI 40) ≤ l5 then (rec 185 0 0 l4 0 0 I J) else (if ¬ (l5 < 0 ∨ 40 ≤ l5.toNatClampNeg) then (if (I 33 l5.toNatClampNeg) < 0 then (if (zv_X8_isThing (-(I 33 l5.toNatClampNeg))) = 0 then (if ¬ (I 33 l5.toNatClampNeg) = ((-256)) then (if l4 < 2 then (rec 179 l2 l3 l4 l5 0 I J) else (if (nI 40) < l4 then (rec 179 l2 l3 l4 l5 0 I J) else (if ¬ ((l4 - 2) < 0 ∨ 40 ≤ (l4 - 2).toNatClampNeg) then (if ¬ ((l4 - 1) < 0 ∨ 40 ≤ (l4 - 1).toNatClampNeg) then ((zf_X1_joined N (-(I 33 l5.toNatClampNeg)) (I 34 ((l4 - 2).toNatClampNeg)) (I 34 ((l4 - 1).toNatClampNeg)) I J).bind fun r4 => rec 179 l2 l3 (l4 + (-1)) l5 0 (zz_u I 34 ((l4 - 2).toNatClampNeg) r4.1) J) else none) else none))) else (if l4 < 1 then (rec 179 l2 l3 l4 l5 0 I J) else (if (nI 40) < l4 then (rec 179 l2 l3 l4 l5 0 I J) else (if ¬ ((l4 - 1) < 0 ∨ 40 ≤ (l4 - 1).toNatClampNeg) then (rec 179 l2 l3 l4 l5 0 (zz_u I 34 ((l4 - 1).toNatClampNeg) (-(I 34 ((l4 - 1).toNatClampNeg)))) J) else none)))) else ((zf_X1_thing__5 N (-(I 33 l5.toNatClampNeg)) l2 l3 I J).bind fun r6 => rec 179 l2 l3 (zv_X1_pushed_32 I l4 r6.1) l5 0 (zw_X1_pushed_32 I l4 r6.1) J)) else (rec 179 l2 l3 (zv_X1_pushed_32 I l4 (I 33 l5.toNatClampNeg)) l5 0 (zw_X1_pushed_32 I l4 (I 33 l5.toNatClampNeg)) J)) else none))
def zb_X1_worth_32__5_179 (N : Nat) (rec : Nat → Int32 → Int32 → Int32 → Int32 → Int32 → (Nat → Nat → Int32) → (Nat → Nat → Int64) → Option (Int32 × (Nat → Nat → Int32) × (Nat → Nat → Int64))) (l2 : Int32) (l3 : Int32) (l4 : Int32) (l5 : Int32) (l6 : Int32) (I : Nat → Nat → Int32) (J : Nat → Nat → Int64) : Option (Int32 × (Nat → Nat → Int32) × (Nat → Nat → Int64)) := rec 6 l2 l3 l4 (l5 + 1) 0 I J
def zb_X1_worth_32__5_185 (N : Nat) (rec : Nat → Int32 → Int32 → Int32 → Int32 → Int32 → (Nat → Nat → Int32) → (Nat → Nat → Int64) → Option (Int32 × (Nat → Nat → Int32) × (Nat → Nat → Int64))) (l2 : Int32) (l3 : Int32) (l4 : Int32) (l5 : Int32) (l6 : Int32) (I : Nat → Nat → Int32) (J : Nat → Nat → Int64) : Option (Int32 × (Nat → Nat → Int32) × (Nat → Nat → Int64)) := if l4 ≤ 0 then (some (0, I, J)) else (some (I 34 0, I, J))
def zl_X1_worth_32__5 (N : Nat) : Nat → Nat → Int32 → Int32 → Int32 → Int32 → Int32 → (Nat → Nat → Int32) → (Nat → Nat → Int64) → Option (Int32 × (Nat → Nat → Int32) × (Nat → Nat → Int64))
  | 0 => fun _ _ _ _ _ _ _ _ => none
  | n + 1 => fun pc l2 l3 l4 l5 l6 I J => if pc = 0 then zb_X1_worth_32__5_0 N (zl_X1_worth_32__5 N n) l2 l3 l4 l5 l6 I J else (if pc = 6 then zb_X1_worth_32__5_6 N (zl_X1_worth_32__5 N n) l2 l3 l4 l5 l6 I J else (if pc = 179 then zb_X1_worth_32__5_179 N (zl_X1_worth_32__5 N n) l2 l3 l4 l5 l6 I J else (if pc = 185 then zb_X1_worth_32__5_185 N (zl_X1_worth_32__5 N n) l2 l3 l4 l5 l6 I J else none)))
def zf_X1_worth_32__5 (N : Nat) (l2 : Int32) (l3 : Int32) (I : Nat → Nat → Int32) (J : Nat → Nat → Int64) : Option (Int32 × (Nat → Nat → Int32) × (Nat → Nat → Int64)) := zl_X1_worth_32__5 N N 0 l2 l3 0 0 0 I J
theorem zq_X1_worth_32__5 (F : zz_F) (d N : Nat) : ∀ n : Nat, (∀ (l2 : Int32) (l3 : Int32) (l4 : Int32) (l5 : Int32) (l6 : Int32) (I : Nat → Nat → Int32) (J : Nat → Nat → Int64) (r : Int32 × (Nat → Nat → Int32) × (Nat → Nat → Int64)), zl_X1_worth_32__5 N n 0 l2 l3 l4 l5 l6 I J = some r → zz_run (d+2) 11 0 [some (.ref 32), some (.ref 5), some (.int (l2)), some (.int (l3)), none, none, none] [] (zz_S F I J) (some (.int (r.1))) (zz_S F (r.2.1) (J))) ∧ (∀ (l2 : Int32) (l3 : Int32) (l4 : Int32) (l5 : Int32) (l6 : Int32) (I : Nat → Nat → Int32) (J : Nat → Nat → Int64) (r : Int32 × (Nat → Nat → Int32) × (Nat → Nat → Int64)), zl_X1_worth_32__5 N n 6 l2 l3 l4 l5 l6 I J = some r → zz_run (d+2) 11 6 [some (.ref 32), some (.ref 5), some (.int (l2)), some (.int (l3)), some (.int (l4)), some (.int (l5)), none] [] (zz_S F I J) (some (.int (r.1))) (zz_S F (r.2.1) (J))) ∧ (∀ (l2 : Int32) (l3 : Int32) (l4 : Int32) (l5 : Int32) (l6 : Int32) (I : Nat → Nat → Int32) (J : Nat → Nat → Int64) (r : Int32 × (Nat → Nat → Int32) × (Nat → Nat → Int64)), zl_X1_worth_32__5 N n 179 l2 l3 l4 l5 l6 I J = some r → zz_run (d+2) 11 179 [some (.ref 32), some (.ref 5), some (.int (l2)), some (.int (l3)), some (.int (l4)), some (.int (l5)), none] [] (zz_S F I J) (some (.int (r.1))) (zz_S F (r.2.1) (J))) ∧ (∀ (l2 : Int32) (l3 : Int32) (l4 : Int32) (l5 : Int32) (l6 : Int32) (I : Nat → Nat → Int32) (J : Nat → Nat → Int64) (r : Int32 × (Nat → Nat → Int32) × (Nat → Nat → Int64)), zl_X1_worth_32__5 N n 185 l2 l3 l4 l5 l6 I J = some r → zz_run (d+2) 11 185 [some (.ref 32), some (.ref 5), none, none, some (.int (l4)), none, none] [] (zz_S F I J) (some (.int (r.1))) (zz_S F (r.2.1) (J))) := by
  intro n
  induction n with
  | zero => exact ⟨fun _ _ _ _ _ _ _ _ h => zz_no h, fun _ _ _ _ _ _ _ _ h => zz_no h, fun _ _ _ _ _ _ _ _ h => zz_no h, fun _ _ _ _ _ _ _ _ h => zz_no h⟩
  | succ n ih =>
    obtain ⟨ih0, ih6, ih179, ih185⟩ := ih
    refine ⟨?_, ?_, ?_, ?_⟩
    · intro l2 l3 l4 l5 l6 I J r hr
      replace hr : zb_X1_worth_32__5_0 N (zl_X1_worth_32__5 N n) l2 l3 l4 l5 l6 I J = some r := hr
      unfold zb_X1_worth_32__5_0 at hr
      refine zs_11_0 ?_
      repeat' first | refine And.intro rfl ?_ | refine And.intro (Or.inl rfl) ?_ | refine And.intro (Or.inr rfl) ?_ | refine And.intro (Nat.le_of_ble_eq_true rfl) ?_ | refine And.intro (And.intro rfl rfl) ?_ | exact rfl
      exact zz_wk [true, true, true, true, true, true, false] rfl (ih6 _ _ _ _ _ _ _ _ hr)
    · intro l2 l3 l4 l5 l6 I J r hr
      replace hr : zb_X1_worth_32__5_6 N (zl_X1_worth_32__5 N n) l2 l3 l4 l5 l6 I J = some r := hr
      unfold zb_X1_worth_32__5_6 at hr
      refine zs_11_6 ?_
      repeat' first | refine And.intro rfl ?_ | refine And.intro (Or.inl rfl) ?_ | refine And.intro (Or.inr rfl) ?_ | refine And.intro (Nat.le_of_ble_eq_true rfl) ?_ | refine And.intro (And.intro rfl rfl) ?_ | exact rfl
      refine And.intro (fun (h1 : (I 32 3) ≤ l5) => ?_) (fun (h1 : ¬ ((I 32 3) ≤ l5)) => ?_)
      · rw [if_pos h1] at hr
        exact zz_wk [true, true, false, false, true, false, false] rfl (ih185 _ _ _ _ _ _ _ _ hr)
      · rw [if_neg h1] at hr
        repeat' first | refine And.intro rfl ?_ | refine And.intro (Or.inl rfl) ?_ | refine And.intro (Or.inr rfl) ?_ | refine And.intro (Nat.le_of_ble_eq_true rfl) ?_ | refine And.intro (And.intro rfl rfl) ?_ | exact rfl
        refine And.intro (fun (h2 : (nI 40) ≤ l5) => ?_) (fun (h2 : ¬ ((nI 40) ≤ l5)) => ?_)
        · rw [if_pos h2] at hr
          exact zz_wk [true, true, false, false, true, false, false] rfl (ih185 _ _ _ _ _ _ _ _ hr)
        · rw [if_neg h2] at hr
          repeat' first | refine And.intro rfl ?_ | refine And.intro (Or.inl rfl) ?_ | refine And.intro (Or.inr rfl) ?_ | refine And.intro (Nat.le_of_ble_eq_true rfl) ?_ | refine And.intro (And.intro rfl rfl) ?_ | exact rfl
          have g1 : ¬ (l5 < 0 ∨ 40 ≤ l5.toNatClampNeg) := zz_g hr
          replace hr := zz_gt hr
          refine And.intro (g1) ?_
          repeat' first | refine And.intro rfl ?_ | refine And.intro (Or.inl rfl) ?_ | refine And.intro (Or.inr rfl) ?_ | refine And.intro (Nat.le_of_ble_eq_true rfl) ?_ | refine And.intro (And.intro rfl rfl) ?_ | exact rfl
          refine And.intro (fun (h3 : (I 33 l5.toNatClampNeg) < 0) => ?_) (fun (h3 : ¬ ((I 33 l5.toNatClampNeg) < 0)) => ?_)
          · rw [if_pos h3] at hr
            refine zs_11_52 ?_
            repeat' first | refine And.intro rfl ?_ | refine And.intro (Or.inl rfl) ?_ | refine And.intro (Or.inr rfl) ?_ | refine And.intro (Nat.le_of_ble_eq_true rfl) ?_ | refine And.intro (And.intro rfl rfl) ?_ | exact rfl
            refine Exists.intro _ (Exists.intro _ (And.intro (zr_X8_isThing F I J (d+1) (-(I 33 l5.toNatClampNeg))) ?_))
            repeat' first | refine And.intro rfl ?_ | refine And.intro (Or.inl rfl) ?_ | refine And.intro (Or.inr rfl) ?_ | refine And.intro (Nat.le_of_ble_eq_true rfl) ?_ | refine And.intro (And.intro rfl rfl) ?_ | exact rfl
            refine And.intro (fun (h4 : (zv_X8_isThing (-(I 33 l5.toNatClampNeg))) = 0) => ?_) (fun (h4 : ¬ ((zv_X8_isThing (-(I 33 l5.toNatClampNeg))) = 0)) => ?_)
            · rw [if_pos h4] at hr
              refine zs_11_81 ?_
              repeat' first | refine And.intro rfl ?_ | refine And.intro (Or.inl rfl) ?_ | refine And.intro (Or.inr rfl) ?_ | refine And.intro (Nat.le_of_ble_eq_true rfl) ?_ | refine And.intro (And.intro rfl rfl) ?_ | exact rfl
              refine And.intro (fun (h5 : ¬ (I 33 l5.toNatClampNeg) = ((-256))) => ?_) (fun (h5 : ¬ (¬ (I 33 l5.toNatClampNeg) = ((-256)))) => ?_)
              · rw [if_pos h5] at hr
                refine zs_11_127 ?_
                repeat' first | refine And.intro rfl ?_ | refine And.intro (Or.inl rfl) ?_ | refine And.intro (Or.inr rfl) ?_ | refine And.intro (Nat.le_of_ble_eq_true rfl) ?_ | refine And.intro (And.intro rfl rfl) ?_ | exact rfl
                refine And.intro (fun (h6 : l4 < 2) => ?_) (fun (h6 : ¬ (l4 < 2)) => ?_)
                · rw [if_pos h6] at hr
                  exact zz_wk [true, true, true, true, true, true, false] rfl (ih179 _ _ _ _ _ _ _ _ hr)
                · rw [if_neg h6] at hr
                  repeat' first | refine And.intro rfl ?_ | refine And.intro (Or.inl rfl) ?_ | refine And.intro (Or.inr rfl) ?_ | refine And.intro (Nat.le_of_ble_eq_true rfl) ?_ | refine And.intro (And.intro rfl rfl) ?_ | exact rfl
                  refine And.intro (fun (h7 : (nI 40) < l4) => ?_) (fun (h7 : ¬ ((nI 40) < l4)) => ?_)
                  · rw [if_pos h7] at hr
                    exact zz_wk [true, true, true, true, true, true, false] rfl (ih179 _ _ _ _ _ _ _ _ hr)
                  · rw [if_neg h7] at hr
                    repeat' first | refine And.intro rfl ?_ | refine And.intro (Or.inl rfl) ?_ | refine And.intro (Or.inr rfl) ?_ | refine And.intro (Nat.le_of_ble_eq_true rfl) ?_ | refine And.intro (And.intro rfl rfl) ?_ | exact rfl
                    have g2 : ¬ ((l4 - 2) < 0 ∨ 40 ≤ (l4 - 2).toNatClampNeg) := zz_g hr
                    replace hr := zz_gt hr
                    refine And.intro (g2) ?_
                    repeat' first | refine And.intro rfl ?_ | refine And.intro (Or.inl rfl) ?_ | refine And.intro (Or.inr rfl) ?_ | refine And.intro (Nat.le_of_ble_eq_true rfl) ?_ | refine And.intro (And.intro rfl rfl) ?_ | exact rfl
                    have g3 : ¬ ((l4 - 1) < 0 ∨ 40 ≤ (l4 - 1).toNatClampNeg) := zz_g hr
                    replace hr := zz_gt hr
                    refine And.intro (g3) ?_
                    repeat' first | refine And.intro rfl ?_ | refine And.intro (Or.inl rfl) ?_ | refine And.intro (Or.inr rfl) ?_ | refine And.intro (Nat.le_of_ble_eq_true rfl) ?_ | refine And.intro (And.intro rfl rfl) ?_ | exact rfl
                    obtain ⟨r4, cr4, hr⟩ := Option.bind_eq_some_iff.mp hr
                    refine Exists.intro _ (Exists.intro _ (And.intro (zr_X1_joined F I J (d+1) N (-(I 33 l5.toNatClampNeg)) (I 34 ((l4 - 2).toNatClampNeg)) (I 34 ((l4 - 1).toNatClampNeg)) r4 cr4) ?_))
                    repeat' first | refine And.intro rfl ?_ | refine And.intro (Or.inl rfl) ?_ | refine And.intro (Or.inr rfl) ?_ | refine And.intro (Nat.le_of_ble_eq_true rfl) ?_ | refine And.intro (And.intro rfl rfl) ?_ | exact rfl
                    refine And.intro (g2) ?_
                    repeat' first | refine And.intro rfl ?_ | refine And.intro (Or.inl rfl) ?_ | refine And.intro (Or.inr rfl) ?_ | refine And.intro (Nat.le_of_ble_eq_true rfl) ?_ | refine And.intro (And.intro rfl rfl) ?_ | exact rfl
                    exact zz_wk [true, true, true, true, true, true, false] rfl (ih179 _ _ _ _ _ _ _ _ hr)
              · rw [if_neg h5] at hr
                repeat' first | refine And.intro rfl ?_ | refine And.intro (Or.inl rfl) ?_ | refine And.intro (Or.inr rfl) ?_ | refine And.intro (Nat.le_of_ble_eq_true rfl) ?_ | refine And.intro (And.intro rfl rfl) ?_ | exact rfl
                refine And.intro (fun (h8 : l4 < 1) => ?_) (fun (h8 : ¬ (l4 < 1)) => ?_)
                · rw [if_pos h8] at hr
                  exact zz_wk [true, true, true, true, true, true, false] rfl (ih179 _ _ _ _ _ _ _ _ hr)
                · rw [if_neg h8] at hr
                  repeat' first | refine And.intro rfl ?_ | refine And.intro (Or.inl rfl) ?_ | refine And.intro (Or.inr rfl) ?_ | refine And.intro (Nat.le_of_ble_eq_true rfl) ?_ | refine And.intro (And.intro rfl rfl) ?_ | exact rfl
                  refine And.intro (fun (h9 : (nI 40) < l4) => ?_) (fun (h9 : ¬ ((nI 40) < l4)) => ?_)
                  · rw [if_pos h9] at hr
                    exact zz_wk [true, true, true, true, true, true, false] rfl (ih179 _ _ _ _ _ _ _ _ hr)
                  · rw [if_neg h9] at hr
                    repeat' first | refine And.intro rfl ?_ | refine And.intro (Or.inl rfl) ?_ | refine And.intro (Or.inr rfl) ?_ | refine And.intro (Nat.le_of_ble_eq_true rfl) ?_ | refine And.intro (And.intro rfl rfl) ?_ | exact rfl
                    have g5 : ¬ ((l4 - 1) < 0 ∨ 40 ≤ (l4 - 1).toNatClampNeg) := zz_g hr
                    replace hr := zz_gt hr
                    refine And.intro (g5) ?_
                    repeat' first | refine And.intro rfl ?_ | refine And.intro (Or.inl rfl) ?_ | refine And.intro (Or.inr rfl) ?_ | refine And.intro (Nat.le_of_ble_eq_true rfl) ?_ | refine And.intro (And.intro rfl rfl) ?_ | exact rfl
                    refine And.intro (g5) ?_
                    repeat' first | refine And.intro rfl ?_ | refine And.intro (Or.inl rfl) ?_ | refine And.intro (Or.inr rfl) ?_ | refine And.intro (Nat.le_of_ble_eq_true rfl) ?_ | refine And.intro (And.intro rfl rfl) ?_ | exact rfl
                    exact zz_wk [true, true, true, true, true, true, false] rfl (ih179 _ _ _ _ _ _ _ _ hr)
            · rw [if_neg h4] at hr
              repeat' first | refine And.intro rfl ?_ | refine And.intro (Or.inl rfl) ?_ | refine And.intro (Or.inr rfl) ?_ | refine And.intro (Nat.le_of_ble_eq_true rfl) ?_ | refine And.intro (And.intro rfl rfl) ?_ | exact rfl
              obtain ⟨r6, cr6, hr⟩ := Option.bind_eq_some_iff.mp hr
              refine Exists.intro _ (Exists.intro _ (And.intro (zr_X1_thing__5 F I J d N (-(I 33 l5.toNatClampNeg)) l2 l3 r6 cr6) ?_))
              repeat' first | refine And.intro rfl ?_ | refine And.intro (Or.inl rfl) ?_ | refine And.intro (Or.inr rfl) ?_ | refine And.intro (Nat.le_of_ble_eq_true rfl) ?_ | refine And.intro (And.intro rfl rfl) ?_ | exact rfl
              refine Exists.intro _ (Exists.intro _ (And.intro (zr_X1_pushed_32 F I J (d+1) l4 r6.1) ?_))
              repeat' first | refine And.intro rfl ?_ | refine And.intro (Or.inl rfl) ?_ | refine And.intro (Or.inr rfl) ?_ | refine And.intro (Nat.le_of_ble_eq_true rfl) ?_ | refine And.intro (And.intro rfl rfl) ?_ | exact rfl
              exact zz_wk [true, true, true, true, true, true, false] rfl (ih179 _ _ _ _ _ _ _ _ hr)
          · rw [if_neg h3] at hr
            repeat' first | refine And.intro rfl ?_ | refine And.intro (Or.inl rfl) ?_ | refine And.intro (Or.inr rfl) ?_ | refine And.intro (Nat.le_of_ble_eq_true rfl) ?_ | refine And.intro (And.intro rfl rfl) ?_ | exact rfl
            refine Exists.intro _ (Exists.intro _ (And.intro (zr_X1_pushed_32 F I J (d+1) l4 (I 33 l5.toNatClampNeg)) ?_))
            repeat' first | refine And.intro rfl ?_ | refine And.intro (Or.inl rfl) ?_ | refine And.intro (Or.inr rfl) ?_ | refine And.intro (Nat.le_of_ble_eq_true rfl) ?_ | refine And.intro (And.intro rfl rfl) ?_ | exact rfl
            exact zz_wk [true, true, true, true, true, true, false] rfl (ih179 _ _ _ _ _ _ _ _ hr)
    · intro l2 l3 l4 l5 l6 I J r hr
      replace hr : zb_X1_worth_32__5_179 N (zl_X1_worth_32__5 N n) l2 l3 l4 l5 l6 I J = some r := hr
      unfold zb_X1_worth_32__5_179 at hr
      refine zs_11_179 ?_
      repeat' first | refine And.intro rfl ?_ | refine And.intro (Or.inl rfl) ?_ | refine And.intro (Or.inr rfl) ?_ | refine And.intro (Nat.le_of_ble_eq_true rfl) ?_ | refine And.intro (And.intro rfl rfl) ?_ | exact rfl
      exact zz_wk [true, true, true, true, true, true, false] rfl (ih6 _ _ _ _ _ _ _ _ hr)
    · intro l2 l3 l4 l5 l6 I J r hr
      replace hr : zb_X1_worth_32__5_185 N (zl_X1_worth_32__5 N n) l2 l3 l4 l5 l6 I J = some r := hr
      unfold zb_X1_worth_32__5_185 at hr
      refine zs_11_185 ?_
      repeat' first | refine And.intro rfl ?_ | refine And.intro (Or.inl rfl) ?_ | refine And.intro (Or.inr rfl) ?_ | refine And.intro (Nat.le_of_ble_eq_true rfl) ?_ | refine And.intro (And.intro rfl rfl) ?_ | exact rfl
      refine And.intro (fun (h10 : l4 ≤ 0) => ?_) (fun (h10 : ¬ (l4 ≤ 0)) => ?_)
      · rw [if_pos h10] at hr
        refine zs_11_199 ?_
        repeat' first | refine And.intro rfl ?_ | refine And.intro (Or.inl rfl) ?_ | refine And.intro (Or.inr rfl) ?_ | refine And.intro (Nat.le_of_ble_eq_true rfl) ?_ | refine And.intro (And.intro rfl rfl) ?_ | exact rfl
        refine zs_11_200 ?_
        repeat' first | refine And.intro rfl ?_ | refine And.intro (Or.inl rfl) ?_ | refine And.intro (Or.inr rfl) ?_ | refine And.intro (Nat.le_of_ble_eq_true rfl) ?_ | refine And.intro (And.intro rfl rfl) ?_ | exact rfl
        cases hr
        repeat' first | refine And.intro rfl ?_ | refine And.intro (Or.inl rfl) ?_ | refine And.intro (Or.inr rfl) ?_ | refine And.intro (Nat.le_of_ble_eq_true rfl) ?_ | refine And.intro (And.intro rfl rfl) ?_ | exact rfl
      · rw [if_neg h10] at hr
        repeat' first | refine And.intro rfl ?_ | refine And.intro (Or.inl rfl) ?_ | refine And.intro (Or.inr rfl) ?_ | refine And.intro (Nat.le_of_ble_eq_true rfl) ?_ | refine And.intro (And.intro rfl rfl) ?_ | exact rfl
        refine And.intro (zz_vk (k := 0) rfl rfl) ?_
        repeat' first | refine And.intro rfl ?_ | refine And.intro (Or.inl rfl) ?_ | refine And.intro (Or.inr rfl) ?_ | refine And.intro (Nat.le_of_ble_eq_true rfl) ?_ | refine And.intro (And.intro rfl rfl) ?_ | exact rfl
        refine zs_11_200 ?_
        repeat' first | refine And.intro rfl ?_ | refine And.intro (Or.inl rfl) ?_ | refine And.intro (Or.inr rfl) ?_ | refine And.intro (Nat.le_of_ble_eq_true rfl) ?_ | refine And.intro (And.intro rfl rfl) ?_ | exact rfl
        cases hr
        repeat' first | refine And.intro rfl ?_ | refine And.intro (Or.inl rfl) ?_ | refine And.intro (Or.inr rfl) ?_ | refine And.intro (Nat.le_of_ble_eq_true rfl) ?_ | refine And.intro (And.intro rfl rfl) ?_ | exact rfl
theorem zr_X1_worth_32__5 (F : zz_F) (I : Nat → Nat → Int32) (J : Nat → Nat → Int64) (d N : Nat) (l2 : Int32) (l3 : Int32) (r : Int32 × (Nat → Nat → Int32) × (Nat → Nat → Int64)) (h : zf_X1_worth_32__5 N l2 l3 I J = some r) : zz_run (d+2) 11 0 [some (.ref 32), some (.ref 5), some (.int (l2)), some (.int (l3)), none, none, none] [] (zz_S F I J) (some (.int (r.1))) (zz_S F (r.2.1) (J)) := (zq_X1_worth_32__5 F d N N).1 l2 l3 0 0 0 I J r h
def zb_X2_weighCounts_0 (N : Nat) (rec : Nat → Int32 → Int32 → Int32 → Int32 → Int32 → (Nat → Nat → Int32) → (Nat → Nat → Int64) → Option (Int32 × (Nat → Nat → Int32) × (Nat → Nat → Int64))) (l1 : Int32) (l2 : Int32) (l3 : Int32) (l4 : Int32) (l5 : Int32) (I : Nat → Nat → Int32) (J : Nat → Nat → Int64) : Option (Int32 × (Nat → Nat → Int32) × (Nat → Nat → Int64)) := rec 2 l1 l2 0 0 0 I J
def zb_X2_weighCounts_2 (N : Nat) (rec : Nat → Int32 → Int32 → Int32 → Int32 → Int32 → (Nat → Nat → Int32) → (Nat → Nat → Int64) → Option (Int32 × (Nat → Nat → Int32) × (Nat → Nat → Int64))) (l1 : Int32) (l2 : Int32) (l3 : Int32) (l4 : Int32) (l5 : Int32) (I : Nat → Nat → Int32) (J : Nat → Nat → Int64) : Option (Int32 × (Nat → Nat → Int32) × (Nat → Nat → Int64)) := if (nI 13) ≤ l3 then (rec 26 l1 l2 0 0 0 I J) else (if ¬ (l3 < 0 ∨ 13 ≤ l3.toNatClampNeg) then (rec 2 l1 l2 (l3 + 1) 0 0 (zz_u I 50 l3.toNatClampNeg 0) J) else none)
def zb_X2_weighCounts_26 (N : Nat) (rec : Nat → Int32 → Int32 → Int32 → Int32 → Int32 → (Nat → Nat → Int32) → (Nat → Nat → Int64) → Option (Int32 × (Nat → Nat → Int32) × (Nat → Nat → Int64))) (l1 : Int32) (l2 : Int32) (l3 : Int32) (l4 : Int32) (l5 : Int32) (I : Nat → Nat → Int32) (J : Nat → Nat → Int64) : Option (Int32 × (Nat → Nat → Int32) × (Nat → Nat → Int64)) := if 64 ≤ l3 then (some (0, I, J)) else ((zf_X2_scenesWith N (63 - l3) I J).bind fun r2 => if (nI 13) ≤ (zv_J6_bitCount (l1 &&& (r2.1 ^^^ ((-1))))) then (rec 26 l1 l2 (l3 + 1) 0 0 I J) else (if ¬ ((zv_J6_bitCount (l1 &&& (r2.1 ^^^ ((-1))))) < 0 ∨ 13 ≤ (zv_J6_bitCount (l1 &&& (r2.1 ^^^ ((-1))))).toNatClampNeg) then ((zf_X2_weightOfSet N l3 l2 I J).bind fun r4 => rec 26 l1 l2 (l3 + 1) 0 0 (zz_u I 50 ((zv_J6_bitCount (l1 &&& (r2.1 ^^^ ((-1))))).toNatClampNeg) ((I 50 ((zv_J6_bitCount (l1 &&& (r2.1 ^^^ ((-1))))).toNatClampNeg)) + r4.1)) J) else none))
def zl_X2_weighCounts (N : Nat) : Nat → Nat → Int32 → Int32 → Int32 → Int32 → Int32 → (Nat → Nat → Int32) → (Nat → Nat → Int64) → Option (Int32 × (Nat → Nat → Int32) × (Nat → Nat → Int64))
  | 0 => fun _ _ _ _ _ _ _ _ => none
  | n + 1 => fun pc l1 l2 l3 l4 l5 I J => if pc = 0 then zb_X2_weighCounts_0 N (zl_X2_weighCounts N n) l1 l2 l3 l4 l5 I J else (if pc = 2 then zb_X2_weighCounts_2 N (zl_X2_weighCounts N n) l1 l2 l3 l4 l5 I J else (if pc = 26 then zb_X2_weighCounts_26 N (zl_X2_weighCounts N n) l1 l2 l3 l4 l5 I J else none))
def zf_X2_weighCounts (N : Nat) (l1 : Int32) (l2 : Int32) (I : Nat → Nat → Int32) (J : Nat → Nat → Int64) : Option (Int32 × (Nat → Nat → Int32) × (Nat → Nat → Int64)) := zl_X2_weighCounts N N 0 l1 l2 0 0 0 I J
theorem zq_X2_weighCounts (F : zz_F) (d N : Nat) : ∀ n : Nat, (∀ (l1 : Int32) (l2 : Int32) (l3 : Int32) (l4 : Int32) (l5 : Int32) (I : Nat → Nat → Int32) (J : Nat → Nat → Int64) (r : Int32 × (Nat → Nat → Int32) × (Nat → Nat → Int64)), zl_X2_weighCounts N n 0 l1 l2 l3 l4 l5 I J = some r → zz_run (d+2) 19 0 [some (.ref 49), some (.int (l1)), some (.int (l2)), none, none, none] [] (zz_S F I J) none (zz_S F (r.2.1) (J))) ∧ (∀ (l1 : Int32) (l2 : Int32) (l3 : Int32) (l4 : Int32) (l5 : Int32) (I : Nat → Nat → Int32) (J : Nat → Nat → Int64) (r : Int32 × (Nat → Nat → Int32) × (Nat → Nat → Int64)), zl_X2_weighCounts N n 2 l1 l2 l3 l4 l5 I J = some r → zz_run (d+2) 19 2 [some (.ref 49), some (.int (l1)), some (.int (l2)), some (.int (l3)), none, none] [] (zz_S F I J) none (zz_S F (r.2.1) (J))) ∧ (∀ (l1 : Int32) (l2 : Int32) (l3 : Int32) (l4 : Int32) (l5 : Int32) (I : Nat → Nat → Int32) (J : Nat → Nat → Int64) (r : Int32 × (Nat → Nat → Int32) × (Nat → Nat → Int64)), zl_X2_weighCounts N n 26 l1 l2 l3 l4 l5 I J = some r → zz_run (d+2) 19 26 [some (.ref 49), some (.int (l1)), some (.int (l2)), some (.int (l3)), none, none] [] (zz_S F I J) none (zz_S F (r.2.1) (J))) := by
  intro n
  induction n with
  | zero => exact ⟨fun _ _ _ _ _ _ _ _ h => zz_no h, fun _ _ _ _ _ _ _ _ h => zz_no h, fun _ _ _ _ _ _ _ _ h => zz_no h⟩
  | succ n ih =>
    obtain ⟨ih0, ih2, ih26⟩ := ih
    refine ⟨?_, ?_, ?_⟩
    · intro l1 l2 l3 l4 l5 I J r hr
      replace hr : zb_X2_weighCounts_0 N (zl_X2_weighCounts N n) l1 l2 l3 l4 l5 I J = some r := hr
      unfold zb_X2_weighCounts_0 at hr
      refine zs_19_0 ?_
      repeat' first | refine And.intro rfl ?_ | refine And.intro (Or.inl rfl) ?_ | refine And.intro (Or.inr rfl) ?_ | refine And.intro (Nat.le_of_ble_eq_true rfl) ?_ | refine And.intro (And.intro rfl rfl) ?_ | exact rfl
      exact zz_wk [true, true, true, true, false, false] rfl (ih2 _ _ _ _ _ _ _ _ hr)
    · intro l1 l2 l3 l4 l5 I J r hr
      replace hr : zb_X2_weighCounts_2 N (zl_X2_weighCounts N n) l1 l2 l3 l4 l5 I J = some r := hr
      unfold zb_X2_weighCounts_2 at hr
      refine zs_19_2 ?_
      repeat' first | refine And.intro rfl ?_ | refine And.intro (Or.inl rfl) ?_ | refine And.intro (Or.inr rfl) ?_ | refine And.intro (Nat.le_of_ble_eq_true rfl) ?_ | refine And.intro (And.intro rfl rfl) ?_ | exact rfl
      refine And.intro (fun (h1 : (nI 13) ≤ l3) => ?_) (fun (h1 : ¬ ((nI 13) ≤ l3)) => ?_)
      · rw [if_pos h1] at hr
        refine zs_19_24 ?_
        repeat' first | refine And.intro rfl ?_ | refine And.intro (Or.inl rfl) ?_ | refine And.intro (Or.inr rfl) ?_ | refine And.intro (Nat.le_of_ble_eq_true rfl) ?_ | refine And.intro (And.intro rfl rfl) ?_ | exact rfl
        exact zz_wk [true, true, true, true, false, false] rfl (ih26 _ _ _ _ _ _ _ _ hr)
      · rw [if_neg h1] at hr
        repeat' first | refine And.intro rfl ?_ | refine And.intro (Or.inl rfl) ?_ | refine And.intro (Or.inr rfl) ?_ | refine And.intro (Nat.le_of_ble_eq_true rfl) ?_ | refine And.intro (And.intro rfl rfl) ?_ | exact rfl
        have g1 : ¬ (l3 < 0 ∨ 13 ≤ l3.toNatClampNeg) := zz_g hr
        replace hr := zz_gt hr
        refine And.intro (g1) ?_
        repeat' first | refine And.intro rfl ?_ | refine And.intro (Or.inl rfl) ?_ | refine And.intro (Or.inr rfl) ?_ | refine And.intro (Nat.le_of_ble_eq_true rfl) ?_ | refine And.intro (And.intro rfl rfl) ?_ | exact rfl
        exact zz_wk [true, true, true, true, false, false] rfl (ih2 _ _ _ _ _ _ _ _ hr)
    · intro l1 l2 l3 l4 l5 I J r hr
      replace hr : zb_X2_weighCounts_26 N (zl_X2_weighCounts N n) l1 l2 l3 l4 l5 I J = some r := hr
      unfold zb_X2_weighCounts_26 at hr
      refine zs_19_26 ?_
      repeat' first | refine And.intro rfl ?_ | refine And.intro (Or.inl rfl) ?_ | refine And.intro (Or.inr rfl) ?_ | refine And.intro (Nat.le_of_ble_eq_true rfl) ?_ | refine And.intro (And.intro rfl rfl) ?_ | exact rfl
      refine And.intro (fun (h2 : 64 ≤ l3) => ?_) (fun (h2 : ¬ (64 ≤ l3)) => ?_)
      · rw [if_pos h2] at hr
        refine zs_19_84 ?_
        repeat' first | refine And.intro rfl ?_ | refine And.intro (Or.inl rfl) ?_ | refine And.intro (Or.inr rfl) ?_ | refine And.intro (Nat.le_of_ble_eq_true rfl) ?_ | refine And.intro (And.intro rfl rfl) ?_ | exact rfl
        cases hr
        repeat' first | refine And.intro rfl ?_ | refine And.intro (Or.inl rfl) ?_ | refine And.intro (Or.inr rfl) ?_ | refine And.intro (Nat.le_of_ble_eq_true rfl) ?_ | refine And.intro (And.intro rfl rfl) ?_ | exact rfl
      · rw [if_neg h2] at hr
        repeat' first | refine And.intro rfl ?_ | refine And.intro (Or.inl rfl) ?_ | refine And.intro (Or.inr rfl) ?_ | refine And.intro (Nat.le_of_ble_eq_true rfl) ?_ | refine And.intro (And.intro rfl rfl) ?_ | exact rfl
        obtain ⟨r2, cr2, hr⟩ := Option.bind_eq_some_iff.mp hr
        refine Exists.intro _ (Exists.intro _ (And.intro (zr_X2_scenesWith F I J d N (63 - l3) r2 cr2) ?_))
        repeat' first | refine And.intro rfl ?_ | refine And.intro (Or.inl rfl) ?_ | refine And.intro (Or.inr rfl) ?_ | refine And.intro (Nat.le_of_ble_eq_true rfl) ?_ | refine And.intro (And.intro rfl rfl) ?_ | exact rfl
        refine Exists.intro _ (Exists.intro _ (And.intro (zr_J6_bitCount F I J (d+1) (l1 &&& (r2.1 ^^^ ((-1))))) ?_))
        repeat' first | refine And.intro rfl ?_ | refine And.intro (Or.inl rfl) ?_ | refine And.intro (Or.inr rfl) ?_ | refine And.intro (Nat.le_of_ble_eq_true rfl) ?_ | refine And.intro (And.intro rfl rfl) ?_ | exact rfl
        refine And.intro (fun (h3 : (nI 13) ≤ (zv_J6_bitCount (l1 &&& (r2.1 ^^^ ((-1)))))) => ?_) (fun (h3 : ¬ ((nI 13) ≤ (zv_J6_bitCount (l1 &&& (r2.1 ^^^ ((-1))))))) => ?_)
        · rw [if_pos h3] at hr
          refine zs_19_78 ?_
          repeat' first | refine And.intro rfl ?_ | refine And.intro (Or.inl rfl) ?_ | refine And.intro (Or.inr rfl) ?_ | refine And.intro (Nat.le_of_ble_eq_true rfl) ?_ | refine And.intro (And.intro rfl rfl) ?_ | exact rfl
          exact zz_wk [true, true, true, true, false, false] rfl (ih26 _ _ _ _ _ _ _ _ hr)
        · rw [if_neg h3] at hr
          repeat' first | refine And.intro rfl ?_ | refine And.intro (Or.inl rfl) ?_ | refine And.intro (Or.inr rfl) ?_ | refine And.intro (Nat.le_of_ble_eq_true rfl) ?_ | refine And.intro (And.intro rfl rfl) ?_ | exact rfl
          have g3 : ¬ ((zv_J6_bitCount (l1 &&& (r2.1 ^^^ ((-1))))) < 0 ∨ 13 ≤ (zv_J6_bitCount (l1 &&& (r2.1 ^^^ ((-1))))).toNatClampNeg) := zz_g hr
          replace hr := zz_gt hr
          refine And.intro (g3) ?_
          repeat' first | refine And.intro rfl ?_ | refine And.intro (Or.inl rfl) ?_ | refine And.intro (Or.inr rfl) ?_ | refine And.intro (Nat.le_of_ble_eq_true rfl) ?_ | refine And.intro (And.intro rfl rfl) ?_ | exact rfl
          obtain ⟨r4, cr4, hr⟩ := Option.bind_eq_some_iff.mp hr
          refine Exists.intro _ (Exists.intro _ (And.intro (zr_X2_weightOfSet F I J (d+1) N l3 l2 r4 cr4) ?_))
          repeat' first | refine And.intro rfl ?_ | refine And.intro (Or.inl rfl) ?_ | refine And.intro (Or.inr rfl) ?_ | refine And.intro (Nat.le_of_ble_eq_true rfl) ?_ | refine And.intro (And.intro rfl rfl) ?_ | exact rfl
          refine And.intro (g3) ?_
          repeat' first | refine And.intro rfl ?_ | refine And.intro (Or.inl rfl) ?_ | refine And.intro (Or.inr rfl) ?_ | refine And.intro (Nat.le_of_ble_eq_true rfl) ?_ | refine And.intro (And.intro rfl rfl) ?_ | exact rfl
          refine zs_19_78 ?_
          repeat' first | refine And.intro rfl ?_ | refine And.intro (Or.inl rfl) ?_ | refine And.intro (Or.inr rfl) ?_ | refine And.intro (Nat.le_of_ble_eq_true rfl) ?_ | refine And.intro (And.intro rfl rfl) ?_ | exact rfl
          exact zz_wk [true, true, true, true, false, false] rfl (ih26 _ _ _ _ _ _ _ _ hr)
theorem zr_X2_weighCounts (F : zz_F) (I : Nat → Nat → Int32) (J : Nat → Nat → Int64) (d N : Nat) (l1 : Int32) (l2 : Int32) (r : Int32 × (Nat → Nat → Int32) × (Nat → Nat → Int64)) (h : zf_X2_weighCounts N l1 l2 I J = some r) : zz_run (d+2) 19 0 [some (.ref 49), some (.int (l1)), some (.int (l2)), none, none, none] [] (zz_S F I J) none (zz_S F (r.2.1) (J)) := (zq_X2_weighCounts F d N N).1 l1 l2 0 0 0 I J r h
def zb_X2_fillLeads_0 (N : Nat) (rec : Nat → Int32 → Int32 → (Nat → Nat → Int32) → (Nat → Nat → Int64) → Option (Int32 × (Nat → Nat → Int32) × (Nat → Nat → Int64))) (l1 : Int32) (l2 : Int32) (I : Nat → Nat → Int32) (J : Nat → Nat → Int64) : Option (Int32 × (Nat → Nat → Int32) × (Nat → Nat → Int64)) := rec 2 l1 1 I J
def zb_X2_fillLeads_2 (N : Nat) (rec : Nat → Int32 → Int32 → (Nat → Nat → Int32) → (Nat → Nat → Int64) → Option (Int32 × (Nat → Nat → Int32) × (Nat → Nat → Int64))) (l1 : Int32) (l2 : Int32) (I : Nat → Nat → Int32) (J : Nat → Nat → Int64) : Option (Int32 × (Nat → Nat → Int32) × (Nat → Nat → Int64)) := if l1 < l2 then (some (0, I, J)) else (if (nI 41) ≤ l2 then (some (0, I, J)) else ((zf_X2_firstTake N l2 I J).bind fun r1 => if ¬ (l2 < 0 ∨ 41 ≤ l2.toNatClampNeg) then (rec 2 l1 (l2 + 1) (zz_u I 51 l2.toNatClampNeg (zv_X2_leadByTaking I l2 r1.1)) J) else none))
def zl_X2_fillLeads (N : Nat) : Nat → Nat → Int32 → Int32 → (Nat → Nat → Int32) → (Nat → Nat → Int64) → Option (Int32 × (Nat → Nat → Int32) × (Nat → Nat → Int64))
  | 0 => fun _ _ _ _ _ => none
  | n + 1 => fun pc l1 l2 I J => if pc = 0 then zb_X2_fillLeads_0 N (zl_X2_fillLeads N n) l1 l2 I J else (if pc = 2 then zb_X2_fillLeads_2 N (zl_X2_fillLeads N n) l1 l2 I J else none)
def zf_X2_fillLeads (N : Nat) (l1 : Int32) (I : Nat → Nat → Int32) (J : Nat → Nat → Int64) : Option (Int32 × (Nat → Nat → Int32) × (Nat → Nat → Int64)) := zl_X2_fillLeads N N 0 l1 0 I J
theorem zq_X2_fillLeads (F : zz_F) (d N : Nat) : ∀ n : Nat, (∀ (l1 : Int32) (l2 : Int32) (I : Nat → Nat → Int32) (J : Nat → Nat → Int64) (r : Int32 × (Nat → Nat → Int32) × (Nat → Nat → Int64)), zl_X2_fillLeads N n 0 l1 l2 I J = some r → zz_run (d+3) 26 0 [some (.ref 49), some (.int (l1)), none] [] (zz_S F I J) none (zz_S F (r.2.1) (J))) ∧ (∀ (l1 : Int32) (l2 : Int32) (I : Nat → Nat → Int32) (J : Nat → Nat → Int64) (r : Int32 × (Nat → Nat → Int32) × (Nat → Nat → Int64)), zl_X2_fillLeads N n 2 l1 l2 I J = some r → zz_run (d+3) 26 2 [some (.ref 49), some (.int (l1)), some (.int (l2))] [] (zz_S F I J) none (zz_S F (r.2.1) (J))) := by
  intro n
  induction n with
  | zero => exact ⟨fun _ _ _ _ _ h => zz_no h, fun _ _ _ _ _ h => zz_no h⟩
  | succ n ih =>
    obtain ⟨ih0, ih2⟩ := ih
    refine ⟨?_, ?_⟩
    · intro l1 l2 I J r hr
      replace hr : zb_X2_fillLeads_0 N (zl_X2_fillLeads N n) l1 l2 I J = some r := hr
      unfold zb_X2_fillLeads_0 at hr
      refine zs_26_0 ?_
      repeat' first | refine And.intro rfl ?_ | refine And.intro (Or.inl rfl) ?_ | refine And.intro (Or.inr rfl) ?_ | refine And.intro (Nat.le_of_ble_eq_true rfl) ?_ | refine And.intro (And.intro rfl rfl) ?_ | exact rfl
      exact zz_wk [true, true, true] rfl (ih2 _ _ _ _ _ hr)
    · intro l1 l2 I J r hr
      replace hr : zb_X2_fillLeads_2 N (zl_X2_fillLeads N n) l1 l2 I J = some r := hr
      unfold zb_X2_fillLeads_2 at hr
      refine zs_26_2 ?_
      repeat' first | refine And.intro rfl ?_ | refine And.intro (Or.inl rfl) ?_ | refine And.intro (Or.inr rfl) ?_ | refine And.intro (Nat.le_of_ble_eq_true rfl) ?_ | refine And.intro (And.intro rfl rfl) ?_ | exact rfl
      refine And.intro (fun (h1 : l1 < l2) => ?_) (fun (h1 : ¬ (l1 < l2)) => ?_)
      · rw [if_pos h1] at hr
        refine zs_26_38 ?_
        repeat' first | refine And.intro rfl ?_ | refine And.intro (Or.inl rfl) ?_ | refine And.intro (Or.inr rfl) ?_ | refine And.intro (Nat.le_of_ble_eq_true rfl) ?_ | refine And.intro (And.intro rfl rfl) ?_ | exact rfl
        cases hr
        repeat' first | refine And.intro rfl ?_ | refine And.intro (Or.inl rfl) ?_ | refine And.intro (Or.inr rfl) ?_ | refine And.intro (Nat.le_of_ble_eq_true rfl) ?_ | refine And.intro (And.intro rfl rfl) ?_ | exact rfl
      · rw [if_neg h1] at hr
        repeat' first | refine And.intro rfl ?_ | refine And.intro (Or.inl rfl) ?_ | refine And.intro (Or.inr rfl) ?_ | refine And.intro (Nat.le_of_ble_eq_true rfl) ?_ | refine And.intro (And.intro rfl rfl) ?_ | exact rfl
        refine And.intro (fun (h2 : (nI 41) ≤ l2) => ?_) (fun (h2 : ¬ ((nI 41) ≤ l2)) => ?_)
        · rw [if_pos h2] at hr
          refine zs_26_38 ?_
          repeat' first | refine And.intro rfl ?_ | refine And.intro (Or.inl rfl) ?_ | refine And.intro (Or.inr rfl) ?_ | refine And.intro (Nat.le_of_ble_eq_true rfl) ?_ | refine And.intro (And.intro rfl rfl) ?_ | exact rfl
          cases hr
          repeat' first | refine And.intro rfl ?_ | refine And.intro (Or.inl rfl) ?_ | refine And.intro (Or.inr rfl) ?_ | refine And.intro (Nat.le_of_ble_eq_true rfl) ?_ | refine And.intro (And.intro rfl rfl) ?_ | exact rfl
        · rw [if_neg h2] at hr
          repeat' first | refine And.intro rfl ?_ | refine And.intro (Or.inl rfl) ?_ | refine And.intro (Or.inr rfl) ?_ | refine And.intro (Nat.le_of_ble_eq_true rfl) ?_ | refine And.intro (And.intro rfl rfl) ?_ | exact rfl
          obtain ⟨r1, cr1, hr⟩ := Option.bind_eq_some_iff.mp hr
          refine Exists.intro _ (Exists.intro _ (And.intro (zr_X2_firstTake F I J d N l2 r1 cr1) ?_))
          repeat' first | refine And.intro rfl ?_ | refine And.intro (Or.inl rfl) ?_ | refine And.intro (Or.inr rfl) ?_ | refine And.intro (Nat.le_of_ble_eq_true rfl) ?_ | refine And.intro (And.intro rfl rfl) ?_ | exact rfl
          refine Exists.intro _ (Exists.intro _ (And.intro (zr_X2_leadByTaking F I J (d+1) l2 r1.1) ?_))
          repeat' first | refine And.intro rfl ?_ | refine And.intro (Or.inl rfl) ?_ | refine And.intro (Or.inr rfl) ?_ | refine And.intro (Nat.le_of_ble_eq_true rfl) ?_ | refine And.intro (And.intro rfl rfl) ?_ | exact rfl
          have g2 : ¬ (l2 < 0 ∨ 41 ≤ l2.toNatClampNeg) := zz_g hr
          replace hr := zz_gt hr
          refine And.intro (g2) ?_
          repeat' first | refine And.intro rfl ?_ | refine And.intro (Or.inl rfl) ?_ | refine And.intro (Or.inr rfl) ?_ | refine And.intro (Nat.le_of_ble_eq_true rfl) ?_ | refine And.intro (And.intro rfl rfl) ?_ | exact rfl
          exact zz_wk [true, true, true] rfl (ih2 _ _ _ _ _ hr)
theorem zr_X2_fillLeads (F : zz_F) (I : Nat → Nat → Int32) (J : Nat → Nat → Int64) (d N : Nat) (l1 : Int32) (r : Int32 × (Nat → Nat → Int32) × (Nat → Nat → Int64)) (h : zf_X2_fillLeads N l1 I J = some r) : zz_run (d+3) 26 0 [some (.ref 49), some (.int (l1)), none] [] (zz_S F I J) none (zz_S F (r.2.1) (J)) := (zq_X2_fillLeads F d N N).1 l1 0 I J r h
def zb_X4_lay_0 (N : Nat) (rec : Nat → Int32 → (Nat → Nat → Int32) → (Nat → Nat → Int64) → Option (Int32 × (Nat → Nat → Int32) × (Nat → Nat → Int64))) (l1 : Int32) (I : Nat → Nat → Int32) (J : Nat → Nat → Int64) : Option (Int32 × (Nat → Nat → Int32) × (Nat → Nat → Int64)) := (zf_X4_layPlay N l1 0 I J).bind fun r1 => (zf_X4_layPlay N l1 1 (zz_u r1.2.1 41 6 r1.1) J).bind fun r2 => some (0, zz_u r2.2.1 41 7 r2.1, J)
def zl_X4_lay (N : Nat) : Nat → Nat → Int32 → (Nat → Nat → Int32) → (Nat → Nat → Int64) → Option (Int32 × (Nat → Nat → Int32) × (Nat → Nat → Int64))
  | 0 => fun _ _ _ _ => none
  | n + 1 => fun pc l1 I J => if pc = 0 then zb_X4_lay_0 N (zl_X4_lay N n) l1 I J else none
def zf_X4_lay (N : Nat) (l1 : Int32) (I : Nat → Nat → Int32) (J : Nat → Nat → Int64) : Option (Int32 × (Nat → Nat → Int32) × (Nat → Nat → Int64)) := zl_X4_lay N N 0 l1 I J
theorem zq_X4_lay (F : zz_F) (d N : Nat) : ∀ n : Nat, (∀ (l1 : Int32) (I : Nat → Nat → Int32) (J : Nat → Nat → Int64) (r : Int32 × (Nat → Nat → Int32) × (Nat → Nat → Int64)), zl_X4_lay N n 0 l1 I J = some r → zz_run (d+2) 47 0 [some (.ref 41), some (.int (l1))] [] (zz_S F I J) none (zz_S F (r.2.1) (J))) := by
  intro n
  induction n with
  | zero => exact fun _ _ _ _ h => zz_no h
  | succ n ih =>
    have ih0 := ih
    skip
    · intro l1 I J r hr
      replace hr : zb_X4_lay_0 N (zl_X4_lay N n) l1 I J = some r := hr
      unfold zb_X4_lay_0 at hr
      refine zs_47_0 ?_
      repeat' first | refine And.intro rfl ?_ | refine And.intro (Or.inl rfl) ?_ | refine And.intro (Or.inr rfl) ?_ | refine And.intro (Nat.le_of_ble_eq_true rfl) ?_ | refine And.intro (And.intro rfl rfl) ?_ | exact rfl
      obtain ⟨r1, cr1, hr⟩ := Option.bind_eq_some_iff.mp hr
      refine Exists.intro _ (Exists.intro _ (And.intro (zr_X4_layPlay F I J d N l1 0 r1 cr1) ?_))
      repeat' first | refine And.intro rfl ?_ | refine And.intro (Or.inl rfl) ?_ | refine And.intro (Or.inr rfl) ?_ | refine And.intro (Nat.le_of_ble_eq_true rfl) ?_ | refine And.intro (And.intro rfl rfl) ?_ | exact rfl
      obtain ⟨r2, cr2, hr⟩ := Option.bind_eq_some_iff.mp hr
      refine Exists.intro _ (Exists.intro _ (And.intro (zr_X4_layPlay F (zz_u r1.2.1 41 6 r1.1) J d N l1 1 r2 cr2) ?_))
      repeat' first | refine And.intro rfl ?_ | refine And.intro (Or.inl rfl) ?_ | refine And.intro (Or.inr rfl) ?_ | refine And.intro (Nat.le_of_ble_eq_true rfl) ?_ | refine And.intro (And.intro rfl rfl) ?_ | exact rfl
      cases hr
      repeat' first | refine And.intro rfl ?_ | refine And.intro (Or.inl rfl) ?_ | refine And.intro (Or.inr rfl) ?_ | refine And.intro (Nat.le_of_ble_eq_true rfl) ?_ | refine And.intro (And.intro rfl rfl) ?_ | exact rfl
theorem zr_X4_lay (F : zz_F) (I : Nat → Nat → Int32) (J : Nat → Nat → Int64) (d N : Nat) (l1 : Int32) (r : Int32 × (Nat → Nat → Int32) × (Nat → Nat → Int64)) (h : zf_X4_lay N l1 I J = some r) : zz_run (d+2) 47 0 [some (.ref 41), some (.int (l1))] [] (zz_S F I J) none (zz_S F (r.2.1) (J)) := (zq_X4_lay F d N N) l1 I J r h
def zb_X4_takeCut_0 (N : Nat) (rec : Nat → Int32 → Int32 → Int32 → Int32 → (Nat → Nat → Int32) → (Nat → Nat → Int64) → Option (Int32 × (Nat → Nat → Int32) × (Nat → Nat → Int64))) (l1 : Int32) (l2 : Int32) (l3 : Int32) (l4 : Int32) (I : Nat → Nat → Int32) (J : Nat → Nat → Int64) : Option (Int32 × (Nat → Nat → Int32) × (Nat → Nat → Int64)) := (zf_X4_lay N (l1 &&& (l2 ^^^ ((-1)))) I J).bind fun r1 => (zf_X4_fillBack N 0 r1.2.1 J).bind fun r2 => if (r2.2.1 41 14) < r2.1 then (some (0, r2.2.1, J)) else (some (0, zz_u (zz_u (zz_u (zz_u r2.2.1 41 10 l2) 41 11 r2.1) 41 12 l3) 41 13 (zv_J6_bitCount l2), J))
def zl_X4_takeCut (N : Nat) : Nat → Nat → Int32 → Int32 → Int32 → Int32 → (Nat → Nat → Int32) → (Nat → Nat → Int64) → Option (Int32 × (Nat → Nat → Int32) × (Nat → Nat → Int64))
  | 0 => fun _ _ _ _ _ _ _ => none
  | n + 1 => fun pc l1 l2 l3 l4 I J => if pc = 0 then zb_X4_takeCut_0 N (zl_X4_takeCut N n) l1 l2 l3 l4 I J else none
def zf_X4_takeCut (N : Nat) (l1 : Int32) (l2 : Int32) (l3 : Int32) (I : Nat → Nat → Int32) (J : Nat → Nat → Int64) : Option (Int32 × (Nat → Nat → Int32) × (Nat → Nat → Int64)) := zl_X4_takeCut N N 0 l1 l2 l3 0 I J
theorem zq_X4_takeCut (F : zz_F) (d N : Nat) : ∀ n : Nat, (∀ (l1 : Int32) (l2 : Int32) (l3 : Int32) (l4 : Int32) (I : Nat → Nat → Int32) (J : Nat → Nat → Int64) (r : Int32 × (Nat → Nat → Int32) × (Nat → Nat → Int64)), zl_X4_takeCut N n 0 l1 l2 l3 l4 I J = some r → zz_run (d+4) 76 0 [some (.ref 41), some (.int (l1)), some (.int (l2)), some (.int (l3)), none] [] (zz_S F I J) none (zz_S F (r.2.1) (J))) := by
  intro n
  induction n with
  | zero => exact fun _ _ _ _ _ _ _ h => zz_no h
  | succ n ih =>
    have ih0 := ih
    skip
    · intro l1 l2 l3 l4 I J r hr
      replace hr : zb_X4_takeCut_0 N (zl_X4_takeCut N n) l1 l2 l3 l4 I J = some r := hr
      unfold zb_X4_takeCut_0 at hr
      refine zs_76_0 ?_
      repeat' first | refine And.intro rfl ?_ | refine And.intro (Or.inl rfl) ?_ | refine And.intro (Or.inr rfl) ?_ | refine And.intro (Nat.le_of_ble_eq_true rfl) ?_ | refine And.intro (And.intro rfl rfl) ?_ | exact rfl
      obtain ⟨r1, cr1, hr⟩ := Option.bind_eq_some_iff.mp hr
      refine Exists.intro _ (Exists.intro _ (And.intro (zr_X4_lay F I J (d+1) N (l1 &&& (l2 ^^^ ((-1)))) r1 cr1) ?_))
      repeat' first | refine And.intro rfl ?_ | refine And.intro (Or.inl rfl) ?_ | refine And.intro (Or.inr rfl) ?_ | refine And.intro (Nat.le_of_ble_eq_true rfl) ?_ | refine And.intro (And.intro rfl rfl) ?_ | exact rfl
      obtain ⟨r2, cr2, hr⟩ := Option.bind_eq_some_iff.mp hr
      refine Exists.intro _ (Exists.intro _ (And.intro (zr_X4_fillBack F r1.2.1 J d N 0 r2 cr2) ?_))
      repeat' first | refine And.intro rfl ?_ | refine And.intro (Or.inl rfl) ?_ | refine And.intro (Or.inr rfl) ?_ | refine And.intro (Nat.le_of_ble_eq_true rfl) ?_ | refine And.intro (And.intro rfl rfl) ?_ | exact rfl
      refine And.intro (fun (h1 : (r2.2.1 41 14) < r2.1) => ?_) (fun (h1 : ¬ ((r2.2.1 41 14) < r2.1)) => ?_)
      · rw [if_pos h1] at hr
        refine zs_76_49 ?_
        repeat' first | refine And.intro rfl ?_ | refine And.intro (Or.inl rfl) ?_ | refine And.intro (Or.inr rfl) ?_ | refine And.intro (Nat.le_of_ble_eq_true rfl) ?_ | refine And.intro (And.intro rfl rfl) ?_ | exact rfl
        cases hr
        repeat' first | refine And.intro rfl ?_ | refine And.intro (Or.inl rfl) ?_ | refine And.intro (Or.inr rfl) ?_ | refine And.intro (Nat.le_of_ble_eq_true rfl) ?_ | refine And.intro (And.intro rfl rfl) ?_ | exact rfl
      · rw [if_neg h1] at hr
        repeat' first | refine And.intro rfl ?_ | refine And.intro (Or.inl rfl) ?_ | refine And.intro (Or.inr rfl) ?_ | refine And.intro (Nat.le_of_ble_eq_true rfl) ?_ | refine And.intro (And.intro rfl rfl) ?_ | exact rfl
        refine Exists.intro _ (Exists.intro _ (And.intro (zr_J6_bitCount F (zz_u (zz_u (zz_u r2.2.1 41 10 l2) 41 11 r2.1) 41 12 l3) J (d+3) l2) ?_))
        repeat' first | refine And.intro rfl ?_ | refine And.intro (Or.inl rfl) ?_ | refine And.intro (Or.inr rfl) ?_ | refine And.intro (Nat.le_of_ble_eq_true rfl) ?_ | refine And.intro (And.intro rfl rfl) ?_ | exact rfl
        refine zs_76_49 ?_
        repeat' first | refine And.intro rfl ?_ | refine And.intro (Or.inl rfl) ?_ | refine And.intro (Or.inr rfl) ?_ | refine And.intro (Nat.le_of_ble_eq_true rfl) ?_ | refine And.intro (And.intro rfl rfl) ?_ | exact rfl
        cases hr
        repeat' first | refine And.intro rfl ?_ | refine And.intro (Or.inl rfl) ?_ | refine And.intro (Or.inr rfl) ?_ | refine And.intro (Nat.le_of_ble_eq_true rfl) ?_ | refine And.intro (And.intro rfl rfl) ?_ | exact rfl
theorem zr_X4_takeCut (F : zz_F) (I : Nat → Nat → Int32) (J : Nat → Nat → Int64) (d N : Nat) (l1 : Int32) (l2 : Int32) (l3 : Int32) (r : Int32 × (Nat → Nat → Int32) × (Nat → Nat → Int64)) (h : zf_X4_takeCut N l1 l2 l3 I J = some r) : zz_run (d+4) 76 0 [some (.ref 41), some (.int (l1)), some (.int (l2)), some (.int (l3)), none] [] (zz_S F I J) none (zz_S F (r.2.1) (J)) := (zq_X4_takeCut F d N N) l1 l2 l3 0 I J r h
def zb_X8_mayEnd_0 (N : Nat) (rec : Nat → (Nat → Nat → Int32) → (Nat → Nat → Int64) → Option (Int32 × (Nat → Nat → Int32) × (Nat → Nat → Int64)))  (I : Nat → Nat → Int32) (J : Nat → Nat → Int64) : Option (Int32 × (Nat → Nat → Int32) × (Nat → Nat → Int64)) := if ¬ (I 37 7) = 0 then (some (0, I, J)) else (if (I 37 4) ≤ 0 then ((zf_X8_release N 0 I J).bind fun r1 => some (1, r1.2.1, J)) else (some (0, I, J)))
def zl_X8_mayEnd (N : Nat) : Nat → Nat → (Nat → Nat → Int32) → (Nat → Nat → Int64) → Option (Int32 × (Nat → Nat → Int32) × (Nat → Nat → Int64))
  | 0 => fun _ _ _ => none
  | n + 1 => fun pc  I J => if pc = 0 then zb_X8_mayEnd_0 N (zl_X8_mayEnd N n)  I J else none
def zf_X8_mayEnd (N : Nat)  (I : Nat → Nat → Int32) (J : Nat → Nat → Int64) : Option (Int32 × (Nat → Nat → Int32) × (Nat → Nat → Int64)) := zl_X8_mayEnd N N 0  I J
theorem zq_X8_mayEnd (F : zz_F) (d N : Nat) : ∀ n : Nat, (∀  (I : Nat → Nat → Int32) (J : Nat → Nat → Int64) (r : Int32 × (Nat → Nat → Int32) × (Nat → Nat → Int64)), zl_X8_mayEnd N n 0  I J = some r → zz_run (d+2) 99 0 [some (.ref 37)] [] (zz_S F I J) (some (.int (r.1))) (zz_S F (r.2.1) (J))) := by
  intro n
  induction n with
  | zero => exact fun _ _ _ h => zz_no h
  | succ n ih =>
    have ih0 := ih
    skip
    · intro  I J r hr
      replace hr : zb_X8_mayEnd_0 N (zl_X8_mayEnd N n)  I J = some r := hr
      unfold zb_X8_mayEnd_0 at hr
      refine zs_99_0 ?_
      repeat' first | refine And.intro rfl ?_ | refine And.intro (Or.inl rfl) ?_ | refine And.intro (Or.inr rfl) ?_ | refine And.intro (Nat.le_of_ble_eq_true rfl) ?_ | refine And.intro (And.intro rfl rfl) ?_ | exact rfl
      refine And.intro (fun (h1 : ¬ (I 37 7) = 0) => ?_) (fun (h1 : ¬ (¬ (I 37 7) = 0)) => ?_)
      · rw [if_pos h1] at hr
        refine zs_99_14 ?_
        repeat' first | refine And.intro rfl ?_ | refine And.intro (Or.inl rfl) ?_ | refine And.intro (Or.inr rfl) ?_ | refine And.intro (Nat.le_of_ble_eq_true rfl) ?_ | refine And.intro (And.intro rfl rfl) ?_ | exact rfl
        cases hr
        repeat' first | refine And.intro rfl ?_ | refine And.intro (Or.inl rfl) ?_ | refine And.intro (Or.inr rfl) ?_ | refine And.intro (Nat.le_of_ble_eq_true rfl) ?_ | refine And.intro (And.intro rfl rfl) ?_ | exact rfl
      · rw [if_neg h1] at hr
        repeat' first | refine And.intro rfl ?_ | refine And.intro (Or.inl rfl) ?_ | refine And.intro (Or.inr rfl) ?_ | refine And.intro (Nat.le_of_ble_eq_true rfl) ?_ | refine And.intro (And.intro rfl rfl) ?_ | exact rfl
        refine And.intro (fun (h2 : (I 37 4) ≤ 0) => ?_) (fun (h2 : ¬ ((I 37 4) ≤ 0)) => ?_)
        · rw [if_pos h2] at hr
          refine zs_99_16 ?_
          repeat' first | refine And.intro rfl ?_ | refine And.intro (Or.inl rfl) ?_ | refine And.intro (Or.inr rfl) ?_ | refine And.intro (Nat.le_of_ble_eq_true rfl) ?_ | refine And.intro (And.intro rfl rfl) ?_ | exact rfl
          obtain ⟨r1, cr1, hr⟩ := Option.bind_eq_some_iff.mp hr
          refine Exists.intro _ (Exists.intro _ (And.intro (zr_X8_release F I J d N 0 r1 cr1) ?_))
          repeat' first | refine And.intro rfl ?_ | refine And.intro (Or.inl rfl) ?_ | refine And.intro (Or.inr rfl) ?_ | refine And.intro (Nat.le_of_ble_eq_true rfl) ?_ | refine And.intro (And.intro rfl rfl) ?_ | exact rfl
          cases hr
          repeat' first | refine And.intro rfl ?_ | refine And.intro (Or.inl rfl) ?_ | refine And.intro (Or.inr rfl) ?_ | refine And.intro (Nat.le_of_ble_eq_true rfl) ?_ | refine And.intro (And.intro rfl rfl) ?_ | exact rfl
        · rw [if_neg h2] at hr
          repeat' first | refine And.intro rfl ?_ | refine And.intro (Or.inl rfl) ?_ | refine And.intro (Or.inr rfl) ?_ | refine And.intro (Nat.le_of_ble_eq_true rfl) ?_ | refine And.intro (And.intro rfl rfl) ?_ | exact rfl
          refine zs_99_14 ?_
          repeat' first | refine And.intro rfl ?_ | refine And.intro (Or.inl rfl) ?_ | refine And.intro (Or.inr rfl) ?_ | refine And.intro (Nat.le_of_ble_eq_true rfl) ?_ | refine And.intro (And.intro rfl rfl) ?_ | exact rfl
          cases hr
          repeat' first | refine And.intro rfl ?_ | refine And.intro (Or.inl rfl) ?_ | refine And.intro (Or.inr rfl) ?_ | refine And.intro (Nat.le_of_ble_eq_true rfl) ?_ | refine And.intro (And.intro rfl rfl) ?_ | exact rfl
theorem zr_X8_mayEnd (F : zz_F) (I : Nat → Nat → Int32) (J : Nat → Nat → Int64) (d N : Nat)  (r : Int32 × (Nat → Nat → Int32) × (Nat → Nat → Int64)) (h : zf_X8_mayEnd N  I J = some r) : zz_run (d+2) 99 0 [some (.ref 37)] [] (zz_S F I J) (some (.int (r.1))) (zz_S F (r.2.1) (J)) := (zq_X8_mayEnd F d N N)  I J r h
def zb_X8_closes_0 (N : Nat) (rec : Nat → (Nat → Nat → Int32) → (Nat → Nat → Int64) → Option (Int32 × (Nat → Nat → Int32) × (Nat → Nat → Int64)))  (I : Nat → Nat → Int32) (J : Nat → Nat → Int64) : Option (Int32 × (Nat → Nat → Int32) × (Nat → Nat → Int64)) := if 0 < (I 37 4) then ((zf_X8_release N 1 (zz_u (zz_u I 37 4 ((I 37 4) - 1)) 37 6 0) J).bind fun r1 => some (1, zz_u r1.2.1 37 3 (zz_max 0 ((r1.2.1 37 3) - 1)), J)) else (some (0, I, J))
def zl_X8_closes (N : Nat) : Nat → Nat → (Nat → Nat → Int32) → (Nat → Nat → Int64) → Option (Int32 × (Nat → Nat → Int32) × (Nat → Nat → Int64))
  | 0 => fun _ _ _ => none
  | n + 1 => fun pc  I J => if pc = 0 then zb_X8_closes_0 N (zl_X8_closes N n)  I J else none
def zf_X8_closes (N : Nat)  (I : Nat → Nat → Int32) (J : Nat → Nat → Int64) : Option (Int32 × (Nat → Nat → Int32) × (Nat → Nat → Int64)) := zl_X8_closes N N 0  I J
theorem zq_X8_closes (F : zz_F) (d N : Nat) : ∀ n : Nat, (∀  (I : Nat → Nat → Int32) (J : Nat → Nat → Int64) (r : Int32 × (Nat → Nat → Int32) × (Nat → Nat → Int64)), zl_X8_closes N n 0  I J = some r → zz_run (d+2) 107 0 [some (.ref 37)] [] (zz_S F I J) (some (.int (r.1))) (zz_S F (r.2.1) (J))) := by
  intro n
  induction n with
  | zero => exact fun _ _ _ h => zz_no h
  | succ n ih =>
    have ih0 := ih
    skip
    · intro  I J r hr
      replace hr : zb_X8_closes_0 N (zl_X8_closes N n)  I J = some r := hr
      unfold zb_X8_closes_0 at hr
      refine zs_107_0 ?_
      repeat' first | refine And.intro rfl ?_ | refine And.intro (Or.inl rfl) ?_ | refine And.intro (Or.inr rfl) ?_ | refine And.intro (Nat.le_of_ble_eq_true rfl) ?_ | refine And.intro (And.intro rfl rfl) ?_ | exact rfl
      refine And.intro (fun (h1 : 0 < (I 37 4)) => ?_) (fun (h1 : ¬ (0 < (I 37 4))) => ?_)
      · rw [if_pos h1] at hr
        refine zs_107_9 ?_
        repeat' first | refine And.intro rfl ?_ | refine And.intro (Or.inl rfl) ?_ | refine And.intro (Or.inr rfl) ?_ | refine And.intro (Nat.le_of_ble_eq_true rfl) ?_ | refine And.intro (And.intro rfl rfl) ?_ | exact rfl
        obtain ⟨r1, cr1, hr⟩ := Option.bind_eq_some_iff.mp hr
        refine Exists.intro _ (Exists.intro _ (And.intro (zr_X8_release F (zz_u (zz_u I 37 4 ((I 37 4) - 1)) 37 6 0) J d N 1 r1 cr1) ?_))
        repeat' first | refine And.intro rfl ?_ | refine And.intro (Or.inl rfl) ?_ | refine And.intro (Or.inr rfl) ?_ | refine And.intro (Nat.le_of_ble_eq_true rfl) ?_ | refine And.intro (And.intro rfl rfl) ?_ | exact rfl
        refine Exists.intro _ (Exists.intro _ (And.intro (zr_max F r1.2.1 J (d+1) 0 ((r1.2.1 37 3) - 1)) ?_))
        repeat' first | refine And.intro rfl ?_ | refine And.intro (Or.inl rfl) ?_ | refine And.intro (Or.inr rfl) ?_ | refine And.intro (Nat.le_of_ble_eq_true rfl) ?_ | refine And.intro (And.intro rfl rfl) ?_ | exact rfl
        cases hr
        repeat' first | refine And.intro rfl ?_ | refine And.intro (Or.inl rfl) ?_ | refine And.intro (Or.inr rfl) ?_ | refine And.intro (Nat.le_of_ble_eq_true rfl) ?_ | refine And.intro (And.intro rfl rfl) ?_ | exact rfl
      · rw [if_neg h1] at hr
        repeat' first | refine And.intro rfl ?_ | refine And.intro (Or.inl rfl) ?_ | refine And.intro (Or.inr rfl) ?_ | refine And.intro (Nat.le_of_ble_eq_true rfl) ?_ | refine And.intro (And.intro rfl rfl) ?_ | exact rfl
        cases hr
        repeat' first | refine And.intro rfl ?_ | refine And.intro (Or.inl rfl) ?_ | refine And.intro (Or.inr rfl) ?_ | refine And.intro (Nat.le_of_ble_eq_true rfl) ?_ | refine And.intro (And.intro rfl rfl) ?_ | exact rfl
theorem zr_X8_closes (F : zz_F) (I : Nat → Nat → Int32) (J : Nat → Nat → Int64) (d N : Nat)  (r : Int32 × (Nat → Nat → Int32) × (Nat → Nat → Int64)) (h : zf_X8_closes N  I J = some r) : zz_run (d+2) 107 0 [some (.ref 37)] [] (zz_S F I J) (some (.int (r.1))) (zz_S F (r.2.1) (J)) := (zq_X8_closes F d N N)  I J r h
def zb_X11_lamps_0 (N : Nat) (rec : Nat → Int32 → (Nat → Nat → Int32) → (Nat → Nat → Int64) → Option (Int32 × (Nat → Nat → Int32) × (Nat → Nat → Int64))) (l1 : Int32) (I : Nat → Nat → Int32) (J : Nat → Nat → Int64) : Option (Int32 × (Nat → Nat → Int32) × (Nat → Nat → Int64)) := if l1 < 1 then (some ((-1), I, J)) else (if l1 ≤ 40 then ((zf_X2_fillLeads N l1 I J).bind fun r1 => (zf_X2_firstTake N l1 r1.2.1 J).bind fun r2 => some (100 + (zv_X2_leadWith (zw_X11_tell r1.2.1 J r2.1.toInt64) l1), zw_X11_tell r1.2.1 J r2.1.toInt64, zx_X11_tell r1.2.1 J r2.1.toInt64)) else (some ((-1), I, J)))
def zl_X11_lamps (N : Nat) : Nat → Nat → Int32 → (Nat → Nat → Int32) → (Nat → Nat → Int64) → Option (Int32 × (Nat → Nat → Int32) × (Nat → Nat → Int64))
  | 0 => fun _ _ _ _ => none
  | n + 1 => fun pc l1 I J => if pc = 0 then zb_X11_lamps_0 N (zl_X11_lamps N n) l1 I J else none
def zf_X11_lamps (N : Nat) (l1 : Int32) (I : Nat → Nat → Int32) (J : Nat → Nat → Int64) : Option (Int32 × (Nat → Nat → Int32) × (Nat → Nat → Int64)) := zl_X11_lamps N N 0 l1 I J
theorem zq_X11_lamps (F : zz_F) (d N : Nat) : ∀ n : Nat, (∀ (l1 : Int32) (I : Nat → Nat → Int32) (J : Nat → Nat → Int64) (r : Int32 × (Nat → Nat → Int32) × (Nat → Nat → Int64)), zl_X11_lamps N n 0 l1 I J = some r → zz_run (d+4) 167 0 [some (.ref 2), some (.int (l1))] [] (zz_S F I J) (some (.int (r.1))) (zz_S F (r.2.1) (r.2.2))) := by
  intro n
  induction n with
  | zero => exact fun _ _ _ _ h => zz_no h
  | succ n ih =>
    have ih0 := ih
    skip
    · intro l1 I J r hr
      replace hr : zb_X11_lamps_0 N (zl_X11_lamps N n) l1 I J = some r := hr
      unfold zb_X11_lamps_0 at hr
      refine zs_167_0 ?_
      repeat' first | refine And.intro rfl ?_ | refine And.intro (Or.inl rfl) ?_ | refine And.intro (Or.inr rfl) ?_ | refine And.intro (Nat.le_of_ble_eq_true rfl) ?_ | refine And.intro (And.intro rfl rfl) ?_ | exact rfl
      refine And.intro (fun (h1 : l1 < 1) => ?_) (fun (h1 : ¬ (l1 < 1)) => ?_)
      · rw [if_pos h1] at hr
        refine zs_167_11 ?_
        repeat' first | refine And.intro rfl ?_ | refine And.intro (Or.inl rfl) ?_ | refine And.intro (Or.inr rfl) ?_ | refine And.intro (Nat.le_of_ble_eq_true rfl) ?_ | refine And.intro (And.intro rfl rfl) ?_ | exact rfl
        cases hr
        repeat' first | refine And.intro rfl ?_ | refine And.intro (Or.inl rfl) ?_ | refine And.intro (Or.inr rfl) ?_ | refine And.intro (Nat.le_of_ble_eq_true rfl) ?_ | refine And.intro (And.intro rfl rfl) ?_ | exact rfl
      · rw [if_neg h1] at hr
        repeat' first | refine And.intro rfl ?_ | refine And.intro (Or.inl rfl) ?_ | refine And.intro (Or.inr rfl) ?_ | refine And.intro (Nat.le_of_ble_eq_true rfl) ?_ | refine And.intro (And.intro rfl rfl) ?_ | exact rfl
        refine And.intro (fun (h2 : l1 ≤ 40) => ?_) (fun (h2 : ¬ (l1 ≤ 40)) => ?_)
        · rw [if_pos h2] at hr
          refine zs_167_13 ?_
          repeat' first | refine And.intro rfl ?_ | refine And.intro (Or.inl rfl) ?_ | refine And.intro (Or.inr rfl) ?_ | refine And.intro (Nat.le_of_ble_eq_true rfl) ?_ | refine And.intro (And.intro rfl rfl) ?_ | exact rfl
          obtain ⟨r1, cr1, hr⟩ := Option.bind_eq_some_iff.mp hr
          refine Exists.intro _ (Exists.intro _ (And.intro (zr_X2_fillLeads F I J d N l1 r1 cr1) ?_))
          repeat' first | refine And.intro rfl ?_ | refine And.intro (Or.inl rfl) ?_ | refine And.intro (Or.inr rfl) ?_ | refine And.intro (Nat.le_of_ble_eq_true rfl) ?_ | refine And.intro (And.intro rfl rfl) ?_ | exact rfl
          obtain ⟨r2, cr2, hr⟩ := Option.bind_eq_some_iff.mp hr
          refine Exists.intro _ (Exists.intro _ (And.intro (zr_X2_firstTake F r1.2.1 J (d+1) N l1 r2 cr2) ?_))
          repeat' first | refine And.intro rfl ?_ | refine And.intro (Or.inl rfl) ?_ | refine And.intro (Or.inr rfl) ?_ | refine And.intro (Nat.le_of_ble_eq_true rfl) ?_ | refine And.intro (And.intro rfl rfl) ?_ | exact rfl
          refine Exists.intro _ (Exists.intro _ (And.intro (zr_X11_tell F r1.2.1 J (d+2) r2.1.toInt64) ?_))
          repeat' first | refine And.intro rfl ?_ | refine And.intro (Or.inl rfl) ?_ | refine And.intro (Or.inr rfl) ?_ | refine And.intro (Nat.le_of_ble_eq_true rfl) ?_ | refine And.intro (And.intro rfl rfl) ?_ | exact rfl
          refine Exists.intro _ (Exists.intro _ (And.intro (zr_X2_leadWith F (zw_X11_tell r1.2.1 J r2.1.toInt64) (zx_X11_tell r1.2.1 J r2.1.toInt64) (d+3) l1) ?_))
          repeat' first | refine And.intro rfl ?_ | refine And.intro (Or.inl rfl) ?_ | refine And.intro (Or.inr rfl) ?_ | refine And.intro (Nat.le_of_ble_eq_true rfl) ?_ | refine And.intro (And.intro rfl rfl) ?_ | exact rfl
          cases hr
          repeat' first | refine And.intro rfl ?_ | refine And.intro (Or.inl rfl) ?_ | refine And.intro (Or.inr rfl) ?_ | refine And.intro (Nat.le_of_ble_eq_true rfl) ?_ | refine And.intro (And.intro rfl rfl) ?_ | exact rfl
        · rw [if_neg h2] at hr
          repeat' first | refine And.intro rfl ?_ | refine And.intro (Or.inl rfl) ?_ | refine And.intro (Or.inr rfl) ?_ | refine And.intro (Nat.le_of_ble_eq_true rfl) ?_ | refine And.intro (And.intro rfl rfl) ?_ | exact rfl
          refine zs_167_11 ?_
          repeat' first | refine And.intro rfl ?_ | refine And.intro (Or.inl rfl) ?_ | refine And.intro (Or.inr rfl) ?_ | refine And.intro (Nat.le_of_ble_eq_true rfl) ?_ | refine And.intro (And.intro rfl rfl) ?_ | exact rfl
          cases hr
          repeat' first | refine And.intro rfl ?_ | refine And.intro (Or.inl rfl) ?_ | refine And.intro (Or.inr rfl) ?_ | refine And.intro (Nat.le_of_ble_eq_true rfl) ?_ | refine And.intro (And.intro rfl rfl) ?_ | exact rfl
theorem zr_X11_lamps (F : zz_F) (I : Nat → Nat → Int32) (J : Nat → Nat → Int64) (d N : Nat) (l1 : Int32) (r : Int32 × (Nat → Nat → Int32) × (Nat → Nat → Int64)) (h : zf_X11_lamps N l1 I J = some r) : zz_run (d+4) 167 0 [some (.ref 2), some (.int (l1))] [] (zz_S F I J) (some (.int (r.1))) (zz_S F (r.2.1) (r.2.2)) := (zq_X11_lamps F d N N) l1 I J r h
