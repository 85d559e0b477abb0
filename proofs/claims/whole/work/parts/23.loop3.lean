/-! methods with loops, printed by wip/whole/loop.py -/
def zb_X9_unionOf_0 (N : Nat) (rec : Nat → Int32 → Int32 → Int32 → Int32 → (Nat → Nat → Int32) → (Nat → Nat → Int64) → Option (Int32 × (Nat → Nat → Int32) × (Nat → Nat → Int64))) (l1 : Int32) (l2 : Int32) (l3 : Int32) (l4 : Int32) (I : Nat → Nat → Int32) (J : Nat → Nat → Int64) : Option (Int32 × (Nat → Nat → Int32) × (Nat → Nat → Int64)) := rec 5 l1 l2 0 0 I J
def zb_X9_unionOf_5 (N : Nat) (rec : Nat → Int32 → Int32 → Int32 → Int32 → (Nat → Nat → Int32) → (Nat → Nat → Int64) → Option (Int32 × (Nat → Nat → Int32) × (Nat → Nat → Int64))) (l1 : Int32) (l2 : Int32) (l3 : Int32) (l4 : Int32) (I : Nat → Nat → Int32) (J : Nat → Nat → Int64) : Option (Int32 × (Nat → Nat → Int32) × (Nat → Nat → Int64)) := if (I 5 2) ≤ l4 then (some (l3, I, J)) else (if ¬ ((l1 >>> (l4 &&& 31)) &&& 1) = 1 then (rec 5 l1 l2 l3 (l4 + 1) I J) else (rec 5 l1 l2 (l3 ||| (zz_f I l4 l2)) (l4 + 1) I J))
def zl_X9_unionOf (N : Nat) : Nat → Nat → Int32 → Int32 → Int32 → Int32 → (Nat → Nat → Int32) → (Nat → Nat → Int64) → Option (Int32 × (Nat → Nat → Int32) × (Nat → Nat → Int64))
  | 0 => fun _ _ _ _ _ _ _ => none
  | n + 1 => fun pc l1 l2 l3 l4 I J => if pc = 0 then zb_X9_unionOf_0 N (zl_X9_unionOf N n) l1 l2 l3 l4 I J else (if pc = 5 then zb_X9_unionOf_5 N (zl_X9_unionOf N n) l1 l2 l3 l4 I J else none)
def zf_X9_unionOf (N : Nat) (l1 : Int32) (l2 : Int32) (I : Nat → Nat → Int32) (J : Nat → Nat → Int64) : Option (Int32 × (Nat → Nat → Int32) × (Nat → Nat → Int64)) := zl_X9_unionOf N N 0 l1 l2 0 0 I J
theorem zq_X9_unionOf (F : zz_F) (d N : Nat) : ∀ n : Nat, (∀ (l1 : Int32) (l2 : Int32) (l3 : Int32) (l4 : Int32) (I : Nat → Nat → Int32) (J : Nat → Nat → Int64) (r : Int32 × (Nat → Nat → Int32) × (Nat → Nat → Int64)), zl_X9_unionOf N n 0 l1 l2 l3 l4 I J = some r → zz_run (d+1) 119 0 [some (.ref 5), some (.int (l1)), some (.int (l2)), none, none] [] (zz_S F I J) (some (.int (r.1))) (zz_S F (I) (J))) ∧ (∀ (l1 : Int32) (l2 : Int32) (l3 : Int32) (l4 : Int32) (I : Nat → Nat → Int32) (J : Nat → Nat → Int64) (r : Int32 × (Nat → Nat → Int32) × (Nat → Nat → Int64)), zl_X9_unionOf N n 5 l1 l2 l3 l4 I J = some r → zz_run (d+1) 119 5 [some (.ref 5), some (.int (l1)), some (.int (l2)), some (.int (l3)), some (.int (l4))] [] (zz_S F I J) (some (.int (r.1))) (zz_S F (I) (J))) := by
  intro n
  induction n with
  | zero => exact ⟨fun _ _ _ _ _ _ _ h => zz_no h, fun _ _ _ _ _ _ _ h => zz_no h⟩
  | succ n ih =>
    obtain ⟨ih0, ih5⟩ := ih
    refine ⟨?_, ?_⟩
    · intro l1 l2 l3 l4 I J r hr
      replace hr : zb_X9_unionOf_0 N (zl_X9_unionOf N n) l1 l2 l3 l4 I J = some r := hr
      unfold zb_X9_unionOf_0 at hr
      refine zs_119_0 ?_
      repeat' first | refine And.intro rfl ?_ | refine And.intro (Or.inl rfl) ?_ | refine And.intro (Or.inr rfl) ?_ | refine And.intro (Nat.le_of_ble_eq_true rfl) ?_ | refine And.intro (And.intro rfl rfl) ?_ | exact rfl
      exact zz_wk [true, true, true, true, true] rfl (ih5 _ _ _ _ _ _ _ hr)
    · intro l1 l2 l3 l4 I J r hr
      replace hr : zb_X9_unionOf_5 N (zl_X9_unionOf N n) l1 l2 l3 l4 I J = some r := hr
      unfold zb_X9_unionOf_5 at hr
      refine zs_119_5 ?_
      repeat' first | refine And.intro rfl ?_ | refine And.intro (Or.inl rfl) ?_ | refine And.intro (Or.inr rfl) ?_ | refine And.intro (Nat.le_of_ble_eq_true rfl) ?_ | refine And.intro (And.intro rfl rfl) ?_ | exact rfl
      refine And.intro (fun (h1 : (I 5 2) ≤ l4) => ?_) (fun (h1 : ¬ ((I 5 2) ≤ l4)) => ?_)
      · rw [if_pos h1] at hr
        refine zs_119_40 ?_
        repeat' first | refine And.intro rfl ?_ | refine And.intro (Or.inl rfl) ?_ | refine And.intro (Or.inr rfl) ?_ | refine And.intro (Nat.le_of_ble_eq_true rfl) ?_ | refine And.intro (And.intro rfl rfl) ?_ | exact rfl
        cases hr
        repeat' first | refine And.intro rfl ?_ | refine And.intro (Or.inl rfl) ?_ | refine And.intro (Or.inr rfl) ?_ | refine And.intro (Nat.le_of_ble_eq_true rfl) ?_ | refine And.intro (And.intro rfl rfl) ?_ | exact rfl
      · rw [if_neg h1] at hr
        repeat' first | refine And.intro rfl ?_ | refine And.intro (Or.inl rfl) ?_ | refine And.intro (Or.inr rfl) ?_ | refine And.intro (Nat.le_of_ble_eq_true rfl) ?_ | refine And.intro (And.intro rfl rfl) ?_ | exact rfl
        refine And.intro (fun (h2 : ¬ ((l1 >>> (l4 &&& 31)) &&& 1) = 1) => ?_) (fun (h2 : ¬ (¬ ((l1 >>> (l4 &&& 31)) &&& 1) = 1)) => ?_)
        · rw [if_pos h2] at hr
          refine zs_119_34 ?_
          repeat' first | refine And.intro rfl ?_ | refine And.intro (Or.inl rfl) ?_ | refine And.intro (Or.inr rfl) ?_ | refine And.intro (Nat.le_of_ble_eq_true rfl) ?_ | refine And.intro (And.intro rfl rfl) ?_ | exact rfl
          exact zz_wk [true, true, true, true, true] rfl (ih5 _ _ _ _ _ _ _ hr)
        · rw [if_neg h2] at hr
          repeat' first | refine And.intro rfl ?_ | refine And.intro (Or.inl rfl) ?_ | refine And.intro (Or.inr rfl) ?_ | refine And.intro (Nat.le_of_ble_eq_true rfl) ?_ | refine And.intro (And.intro rfl rfl) ?_ | exact rfl
          refine Exists.intro _ (Exists.intro _ (And.intro (zr_of F I J d l4 l2) ?_))
          repeat' first | refine And.intro rfl ?_ | refine And.intro (Or.inl rfl) ?_ | refine And.intro (Or.inr rfl) ?_ | refine And.intro (Nat.le_of_ble_eq_true rfl) ?_ | refine And.intro (And.intro rfl rfl) ?_ | exact rfl
          refine zs_119_34 ?_
          repeat' first | refine And.intro rfl ?_ | refine And.intro (Or.inl rfl) ?_ | refine And.intro (Or.inr rfl) ?_ | refine And.intro (Nat.le_of_ble_eq_true rfl) ?_ | refine And.intro (And.intro rfl rfl) ?_ | exact rfl
          exact zz_wk [true, true, true, true, true] rfl (ih5 _ _ _ _ _ _ _ hr)
theorem zr_X9_unionOf (F : zz_F) (I : Nat → Nat → Int32) (J : Nat → Nat → Int64) (d N : Nat) (l1 : Int32) (l2 : Int32) (r : Int32 × (Nat → Nat → Int32) × (Nat → Nat → Int64)) (h : zf_X9_unionOf N l1 l2 I J = some r) : zz_run (d+1) 119 0 [some (.ref 5), some (.int (l1)), some (.int (l2)), none, none] [] (zz_S F I J) (some (.int (r.1))) (zz_S F (I) (J)) := (zq_X9_unionOf F d N N).1 l1 l2 0 0 I J r h
def zb_X10_clashing_0 (N : Nat) (rec : Nat → Int32 → Int32 → Int32 → Int32 → Int32 → Int32 → (Nat → Nat → Int32) → (Nat → Nat → Int64) → Option (Int32 × (Nat → Nat → Int32) × (Nat → Nat → Int64))) (l1 : Int32) (l2 : Int32) (l3 : Int32) (l4 : Int32) (l5 : Int32) (l6 : Int32) (I : Nat → Nat → Int32) (J : Nat → Nat → Int64) : Option (Int32 × (Nat → Nat → Int32) × (Nat → Nat → Int64)) := rec 24 l1 (zz_kn I 0) (zz_kn I 1) 0 0 0 I J
def zb_X10_clashing_24 (N : Nat) (rec : Nat → Int32 → Int32 → Int32 → Int32 → Int32 → Int32 → (Nat → Nat → Int32) → (Nat → Nat → Int64) → Option (Int32 × (Nat → Nat → Int32) × (Nat → Nat → Int64))) (l1 : Int32) (l2 : Int32) (l3 : Int32) (l4 : Int32) (l5 : Int32) (l6 : Int32) (I : Nat → Nat → Int32) (J : Nat → Nat → Int64) : Option (Int32 × (Nat → Nat → Int32) × (Nat → Nat → Int64)) := if (I 5 2) ≤ l5 then (some (l4, I, J)) else (if ¬ ((l1 >>> (l5 &&& 31)) &&& 1) = 0 then (if ¬ (zz_f I l5 0) = 0 then (if (0 : Int32) = 0 then (if ¬ (zz_follows I l5 l3) = 0 then (rec 99 l1 l2 l3 l4 l5 0 I J) else (rec 99 l1 l2 l3 (l4 ||| ((1 : Int32) <<< (l5 &&& 31))) l5 0 I J)) else (if ¬ (zz_follows I l5 l2) = 0 then (rec 99 l1 l2 l3 l4 l5 0 I J) else (rec 99 l1 l2 l3 (l4 ||| ((1 : Int32) <<< (l5 &&& 31))) l5 0 I J))) else (if (1 : Int32) = 0 then (if ¬ (zz_follows I l5 l3) = 0 then (rec 99 l1 l2 l3 l4 l5 1 I J) else (rec 99 l1 l2 l3 (l4 ||| ((1 : Int32) <<< (l5 &&& 31))) l5 1 I J)) else (if ¬ (zz_follows I l5 l2) = 0 then (rec 99 l1 l2 l3 l4 l5 1 I J) else (rec 99 l1 l2 l3 (l4 ||| ((1 : Int32) <<< (l5 &&& 31))) l5 1 I J)))) else (rec 131 l1 l2 l3 l4 l5 0 I J))
def zb_X10_clashing_99 (N : Nat) (rec : Nat → Int32 → Int32 → Int32 → Int32 → Int32 → Int32 → (Nat → Nat → Int32) → (Nat → Nat → Int64) → Option (Int32 × (Nat → Nat → Int32) × (Nat → Nat → Int64))) (l1 : Int32) (l2 : Int32) (l3 : Int32) (l4 : Int32) (l5 : Int32) (l6 : Int32) (I : Nat → Nat → Int32) (J : Nat → Nat → Int64) : Option (Int32 × (Nat → Nat → Int32) × (Nat → Nat → Int64)) := if l6 = 0 then (rec 131 l1 l2 (l3 ||| (zz_fact I l5)) l4 l5 0 I J) else (rec 131 l1 (l2 ||| (zz_fact I l5)) l3 l4 l5 0 I J)
def zb_X10_clashing_131 (N : Nat) (rec : Nat → Int32 → Int32 → Int32 → Int32 → Int32 → Int32 → (Nat → Nat → Int32) → (Nat → Nat → Int64) → Option (Int32 × (Nat → Nat → Int32) × (Nat → Nat → Int64))) (l1 : Int32) (l2 : Int32) (l3 : Int32) (l4 : Int32) (l5 : Int32) (l6 : Int32) (I : Nat → Nat → Int32) (J : Nat → Nat → Int64) : Option (Int32 × (Nat → Nat → Int32) × (Nat → Nat → Int64)) := rec 24 l1 l2 l3 l4 (l5 + 1) 0 I J
def zl_X10_clashing (N : Nat) : Nat → Nat → Int32 → Int32 → Int32 → Int32 → Int32 → Int32 → (Nat → Nat → Int32) → (Nat → Nat → Int64) → Option (Int32 × (Nat → Nat → Int32) × (Nat → Nat → Int64))
  | 0 => fun _ _ _ _ _ _ _ _ _ => none
  | n + 1 => fun pc l1 l2 l3 l4 l5 l6 I J => if pc = 0 then zb_X10_clashing_0 N (zl_X10_clashing N n) l1 l2 l3 l4 l5 l6 I J else (if pc = 24 then zb_X10_clashing_24 N (zl_X10_clashing N n) l1 l2 l3 l4 l5 l6 I J else (if pc = 99 then zb_X10_clashing_99 N (zl_X10_clashing N n) l1 l2 l3 l4 l5 l6 I J else (if pc = 131 then zb_X10_clashing_131 N (zl_X10_clashing N n) l1 l2 l3 l4 l5 l6 I J else none)))
def zf_X10_clashing (N : Nat) (l1 : Int32) (I : Nat → Nat → Int32) (J : Nat → Nat → Int64) : Option (Int32 × (Nat → Nat → Int32) × (Nat → Nat → Int64)) := zl_X10_clashing N N 0 l1 0 0 0 0 0 I J
theorem zq_X10_clashing (F : zz_F) (d N : Nat) : ∀ n : Nat, (∀ (l1 : Int32) (l2 : Int32) (l3 : Int32) (l4 : Int32) (l5 : Int32) (l6 : Int32) (I : Nat → Nat → Int32) (J : Nat → Nat → Int64) (r : Int32 × (Nat → Nat → Int32) × (Nat → Nat → Int64)), zl_X10_clashing N n 0 l1 l2 l3 l4 l5 l6 I J = some r → zz_run (d+2) 124 0 [some (.ref 46), some (.int (l1)), none, none, none, none, none] [] (zz_S F I J) (some (.int (r.1))) (zz_S F (I) (J))) ∧ (∀ (l1 : Int32) (l2 : Int32) (l3 : Int32) (l4 : Int32) (l5 : Int32) (l6 : Int32) (I : Nat → Nat → Int32) (J : Nat → Nat → Int64) (r : Int32 × (Nat → Nat → Int32) × (Nat → Nat → Int64)), zl_X10_clashing N n 24 l1 l2 l3 l4 l5 l6 I J = some r → zz_run (d+2) 124 24 [some (.ref 46), some (.int (l1)), some (.int (l2)), some (.int (l3)), some (.int (l4)), some (.int (l5)), none] [] (zz_S F I J) (some (.int (r.1))) (zz_S F (I) (J))) ∧ (∀ (l1 : Int32) (l2 : Int32) (l3 : Int32) (l4 : Int32) (l5 : Int32) (l6 : Int32) (I : Nat → Nat → Int32) (J : Nat → Nat → Int64) (r : Int32 × (Nat → Nat → Int32) × (Nat → Nat → Int64)), zl_X10_clashing N n 99 l1 l2 l3 l4 l5 l6 I J = some r → zz_run (d+2) 124 99 [some (.ref 46), some (.int (l1)), some (.int (l2)), some (.int (l3)), some (.int (l4)), some (.int (l5)), some (.int (l6))] [] (zz_S F I J) (some (.int (r.1))) (zz_S F (I) (J))) ∧ (∀ (l1 : Int32) (l2 : Int32) (l3 : Int32) (l4 : Int32) (l5 : Int32) (l6 : Int32) (I : Nat → Nat → Int32) (J : Nat → Nat → Int64) (r : Int32 × (Nat → Nat → Int32) × (Nat → Nat → Int64)), zl_X10_clashing N n 131 l1 l2 l3 l4 l5 l6 I J = some r → zz_run (d+2) 124 131 [some (.ref 46), some (.int (l1)), some (.int (l2)), some (.int (l3)), some (.int (l4)), some (.int (l5)), none] [] (zz_S F I J) (some (.int (r.1))) (zz_S F (I) (J))) := by
  intro n
  induction n with
  | zero => exact ⟨fun _ _ _ _ _ _ _ _ _ h => zz_no h, fun _ _ _ _ _ _ _ _ _ h => zz_no h, fun _ _ _ _ _ _ _ _ _ h => zz_no h, fun _ _ _ _ _ _ _ _ _ h => zz_no h⟩
  | succ n ih =>
    obtain ⟨ih0, ih24, ih99, ih131⟩ := ih
    refine ⟨?_, ?_, ?_, ?_⟩
    · intro l1 l2 l3 l4 l5 l6 I J r hr
      replace hr : zb_X10_clashing_0 N (zl_X10_clashing N n) l1 l2 l3 l4 l5 l6 I J = some r := hr
      unfold zb_X10_clashing_0 at hr
      refine zs_124_0 ?_
      repeat' first | refine And.intro rfl ?_ | refine And.intro (Or.inl rfl) ?_ | refine And.intro (Or.inr rfl) ?_ | refine And.intro (Nat.le_of_ble_eq_true rfl) ?_ | refine And.intro (And.intro rfl rfl) ?_ | exact rfl
      refine Exists.intro _ (Exists.intro _ (And.intro (zr_knownIn F I J (d+1) 0) ?_))
      repeat' first | refine And.intro rfl ?_ | refine And.intro (Or.inl rfl) ?_ | refine And.intro (Or.inr rfl) ?_ | refine And.intro (Nat.le_of_ble_eq_true rfl) ?_ | refine And.intro (And.intro rfl rfl) ?_ | exact rfl
      refine Exists.intro _ (Exists.intro _ (And.intro (zr_knownIn F I J (d+1) 1) ?_))
      repeat' first | refine And.intro rfl ?_ | refine And.intro (Or.inl rfl) ?_ | refine And.intro (Or.inr rfl) ?_ | refine And.intro (Nat.le_of_ble_eq_true rfl) ?_ | refine And.intro (And.intro rfl rfl) ?_ | exact rfl
      exact zz_wk [true, true, true, true, true, true, false] rfl (ih24 _ _ _ _ _ _ _ _ _ hr)
    · intro l1 l2 l3 l4 l5 l6 I J r hr
      replace hr : zb_X10_clashing_24 N (zl_X10_clashing N n) l1 l2 l3 l4 l5 l6 I J = some r := hr
      unfold zb_X10_clashing_24 at hr
      refine zs_124_24 ?_
      repeat' first | refine And.intro rfl ?_ | refine And.intro (Or.inl rfl) ?_ | refine And.intro (Or.inr rfl) ?_ | refine And.intro (Nat.le_of_ble_eq_true rfl) ?_ | refine And.intro (And.intro rfl rfl) ?_ | exact rfl
      refine And.intro (fun (h1 : (I 5 2) ≤ l5) => ?_) (fun (h1 : ¬ ((I 5 2) ≤ l5)) => ?_)
      · rw [if_pos h1] at hr
        refine zs_124_137 ?_
        repeat' first | refine And.intro rfl ?_ | refine And.intro (Or.inl rfl) ?_ | refine And.intro (Or.inr rfl) ?_ | refine And.intro (Nat.le_of_ble_eq_true rfl) ?_ | refine And.intro (And.intro rfl rfl) ?_ | exact rfl
        cases hr
        repeat' first | refine And.intro rfl ?_ | refine And.intro (Or.inl rfl) ?_ | refine And.intro (Or.inr rfl) ?_ | refine And.intro (Nat.le_of_ble_eq_true rfl) ?_ | refine And.intro (And.intro rfl rfl) ?_ | exact rfl
      · rw [if_neg h1] at hr
        repeat' first | refine And.intro rfl ?_ | refine And.intro (Or.inl rfl) ?_ | refine And.intro (Or.inr rfl) ?_ | refine And.intro (Nat.le_of_ble_eq_true rfl) ?_ | refine And.intro (And.intro rfl rfl) ?_ | exact rfl
        refine And.intro (fun (h2 : ¬ ((l1 >>> (l5 &&& 31)) &&& 1) = 0) => ?_) (fun (h2 : ¬ (¬ ((l1 >>> (l5 &&& 31)) &&& 1) = 0)) => ?_)
        · rw [if_pos h2] at hr
          refine zs_124_48 ?_
          repeat' first | refine And.intro rfl ?_ | refine And.intro (Or.inl rfl) ?_ | refine And.intro (Or.inr rfl) ?_ | refine And.intro (Nat.le_of_ble_eq_true rfl) ?_ | refine And.intro (And.intro rfl rfl) ?_ | exact rfl
          refine Exists.intro _ (Exists.intro _ (And.intro (zr_of F I J (d+1) l5 0) ?_))
          repeat' first | refine And.intro rfl ?_ | refine And.intro (Or.inl rfl) ?_ | refine And.intro (Or.inr rfl) ?_ | refine And.intro (Nat.le_of_ble_eq_true rfl) ?_ | refine And.intro (And.intro rfl rfl) ?_ | exact rfl
          refine And.intro (fun (h3 : ¬ (zz_f I l5 0) = 0) => ?_) (fun (h3 : ¬ (¬ (zz_f I l5 0) = 0)) => ?_)
          · rw [if_pos h3] at hr
            refine zs_124_65 ?_
            repeat' first | refine And.intro rfl ?_ | refine And.intro (Or.inl rfl) ?_ | refine And.intro (Or.inr rfl) ?_ | refine And.intro (Nat.le_of_ble_eq_true rfl) ?_ | refine And.intro (And.intro rfl rfl) ?_ | exact rfl
            refine zs_124_66 ?_
            repeat' first | refine And.intro rfl ?_ | refine And.intro (Or.inl rfl) ?_ | refine And.intro (Or.inr rfl) ?_ | refine And.intro (Nat.le_of_ble_eq_true rfl) ?_ | refine And.intro (And.intro rfl rfl) ?_ | exact rfl
            refine And.intro (fun (h4 : (0 : Int32) = 0) => ?_) (fun (h4 : ¬ ((0 : Int32) = 0)) => ?_)
            · rw [if_pos h4] at hr
              refine zs_124_83 ?_
              repeat' first | refine And.intro rfl ?_ | refine And.intro (Or.inl rfl) ?_ | refine And.intro (Or.inr rfl) ?_ | refine And.intro (Nat.le_of_ble_eq_true rfl) ?_ | refine And.intro (And.intro rfl rfl) ?_ | exact rfl
              refine zs_124_84 ?_
              repeat' first | refine And.intro rfl ?_ | refine And.intro (Or.inl rfl) ?_ | refine And.intro (Or.inr rfl) ?_ | refine And.intro (Nat.le_of_ble_eq_true rfl) ?_ | refine And.intro (And.intro rfl rfl) ?_ | exact rfl
              refine Exists.intro _ (Exists.intro _ (And.intro (zr_follows F I J d l5 l3) ?_))
              repeat' first | refine And.intro rfl ?_ | refine And.intro (Or.inl rfl) ?_ | refine And.intro (Or.inr rfl) ?_ | refine And.intro (Nat.le_of_ble_eq_true rfl) ?_ | refine And.intro (And.intro rfl rfl) ?_ | exact rfl
              refine And.intro (fun (h5 : ¬ (zz_follows I l5 l3) = 0) => ?_) (fun (h5 : ¬ (¬ (zz_follows I l5 l3) = 0)) => ?_)
              · rw [if_pos h5] at hr
                exact zz_wk [true, true, true, true, true, true, true] rfl (ih99 _ _ _ _ _ _ _ _ _ hr)
              · rw [if_neg h5] at hr
                repeat' first | refine And.intro rfl ?_ | refine And.intro (Or.inl rfl) ?_ | refine And.intro (Or.inr rfl) ?_ | refine And.intro (Nat.le_of_ble_eq_true rfl) ?_ | refine And.intro (And.intro rfl rfl) ?_ | exact rfl
                exact zz_wk [true, true, true, true, true, true, true] rfl (ih99 _ _ _ _ _ _ _ _ _ hr)
            · rw [if_neg h4] at hr
              repeat' first | refine And.intro rfl ?_ | refine And.intro (Or.inl rfl) ?_ | refine And.intro (Or.inr rfl) ?_ | refine And.intro (Nat.le_of_ble_eq_true rfl) ?_ | refine And.intro (And.intro rfl rfl) ?_ | exact rfl
              refine zs_124_84 ?_
              repeat' first | refine And.intro rfl ?_ | refine And.intro (Or.inl rfl) ?_ | refine And.intro (Or.inr rfl) ?_ | refine And.intro (Nat.le_of_ble_eq_true rfl) ?_ | refine And.intro (And.intro rfl rfl) ?_ | exact rfl
              refine Exists.intro _ (Exists.intro _ (And.intro (zr_follows F I J d l5 l2) ?_))
              repeat' first | refine And.intro rfl ?_ | refine And.intro (Or.inl rfl) ?_ | refine And.intro (Or.inr rfl) ?_ | refine And.intro (Nat.le_of_ble_eq_true rfl) ?_ | refine And.intro (And.intro rfl rfl) ?_ | exact rfl
              refine And.intro (fun (h6 : ¬ (zz_follows I l5 l2) = 0) => ?_) (fun (h6 : ¬ (¬ (zz_follows I l5 l2) = 0)) => ?_)
              · rw [if_pos h6] at hr
                exact zz_wk [true, true, true, true, true, true, true] rfl (ih99 _ _ _ _ _ _ _ _ _ hr)
              · rw [if_neg h6] at hr
                repeat' first | refine And.intro rfl ?_ | refine And.intro (Or.inl rfl) ?_ | refine And.intro (Or.inr rfl) ?_ | refine And.intro (Nat.le_of_ble_eq_true rfl) ?_ | refine And.intro (And.intro rfl rfl) ?_ | exact rfl
                exact zz_wk [true, true, true, true, true, true, true] rfl (ih99 _ _ _ _ _ _ _ _ _ hr)
          · rw [if_neg h3] at hr
            repeat' first | refine And.intro rfl ?_ | refine And.intro (Or.inl rfl) ?_ | refine And.intro (Or.inr rfl) ?_ | refine And.intro (Nat.le_of_ble_eq_true rfl) ?_ | refine And.intro (And.intro rfl rfl) ?_ | exact rfl
            refine zs_124_66 ?_
            repeat' first | refine And.intro rfl ?_ | refine And.intro (Or.inl rfl) ?_ | refine And.intro (Or.inr rfl) ?_ | refine And.intro (Nat.le_of_ble_eq_true rfl) ?_ | refine And.intro (And.intro rfl rfl) ?_ | exact rfl
            refine And.intro (fun (h7 : (1 : Int32) = 0) => ?_) (fun (h7 : ¬ ((1 : Int32) = 0)) => ?_)
            · rw [if_pos h7] at hr
              refine zs_124_83 ?_
              repeat' first | refine And.intro rfl ?_ | refine And.intro (Or.inl rfl) ?_ | refine And.intro (Or.inr rfl) ?_ | refine And.intro (Nat.le_of_ble_eq_true rfl) ?_ | refine And.intro (And.intro rfl rfl) ?_ | exact rfl
              refine zs_124_84 ?_
              repeat' first | refine And.intro rfl ?_ | refine And.intro (Or.inl rfl) ?_ | refine And.intro (Or.inr rfl) ?_ | refine And.intro (Nat.le_of_ble_eq_true rfl) ?_ | refine And.intro (And.intro rfl rfl) ?_ | exact rfl
              refine Exists.intro _ (Exists.intro _ (And.intro (zr_follows F I J d l5 l3) ?_))
              repeat' first | refine And.intro rfl ?_ | refine And.intro (Or.inl rfl) ?_ | refine And.intro (Or.inr rfl) ?_ | refine And.intro (Nat.le_of_ble_eq_true rfl) ?_ | refine And.intro (And.intro rfl rfl) ?_ | exact rfl
              refine And.intro (fun (h8 : ¬ (zz_follows I l5 l3) = 0) => ?_) (fun (h8 : ¬ (¬ (zz_follows I l5 l3) = 0)) => ?_)
              · rw [if_pos h8] at hr
                exact zz_wk [true, true, true, true, true, true, true] rfl (ih99 _ _ _ _ _ _ _ _ _ hr)
              · rw [if_neg h8] at hr
                repeat' first | refine And.intro rfl ?_ | refine And.intro (Or.inl rfl) ?_ | refine And.intro (Or.inr rfl) ?_ | refine And.intro (Nat.le_of_ble_eq_true rfl) ?_ | refine And.intro (And.intro rfl rfl) ?_ | exact rfl
                exact zz_wk [true, true, true, true, true, true, true] rfl (ih99 _ _ _ _ _ _ _ _ _ hr)
            · rw [if_neg h7] at hr
              repeat' first | refine And.intro rfl ?_ | refine And.intro (Or.inl rfl) ?_ | refine And.intro (Or.inr rfl) ?_ | refine And.intro (Nat.le_of_ble_eq_true rfl) ?_ | refine And.intro (And.intro rfl rfl) ?_ | exact rfl
              refine zs_124_84 ?_
              repeat' first | refine And.intro rfl ?_ | refine And.intro (Or.inl rfl) ?_ | refine And.intro (Or.inr rfl) ?_ | refine And.intro (Nat.le_of_ble_eq_true rfl) ?_ | refine And.intro (And.intro rfl rfl) ?_ | exact rfl
              refine Exists.intro _ (Exists.intro _ (And.intro (zr_follows F I J d l5 l2) ?_))
              repeat' first | refine And.intro rfl ?_ | refine And.intro (Or.inl rfl) ?_ | refine And.intro (Or.inr rfl) ?_ | refine And.intro (Nat.le_of_ble_eq_true rfl) ?_ | refine And.intro (And.intro rfl rfl) ?_ | exact rfl
              refine And.intro (fun (h9 : ¬ (zz_follows I l5 l2) = 0) => ?_) (fun (h9 : ¬ (¬ (zz_follows I l5 l2) = 0)) => ?_)
              · rw [if_pos h9] at hr
                exact zz_wk [true, true, true, true, true, true, true] rfl (ih99 _ _ _ _ _ _ _ _ _ hr)
              · rw [if_neg h9] at hr
                repeat' first | refine And.intro rfl ?_ | refine And.intro (Or.inl rfl) ?_ | refine And.intro (Or.inr rfl) ?_ | refine And.intro (Nat.le_of_ble_eq_true rfl) ?_ | refine And.intro (And.intro rfl rfl) ?_ | exact rfl
                exact zz_wk [true, true, true, true, true, true, true] rfl (ih99 _ _ _ _ _ _ _ _ _ hr)
        · rw [if_neg h2] at hr
          repeat' first | refine And.intro rfl ?_ | refine And.intro (Or.inl rfl) ?_ | refine And.intro (Or.inr rfl) ?_ | refine And.intro (Nat.le_of_ble_eq_true rfl) ?_ | refine And.intro (And.intro rfl rfl) ?_ | exact rfl
          exact zz_wk [true, true, true, true, true, true, false] rfl (ih131 _ _ _ _ _ _ _ _ _ hr)
    · intro l1 l2 l3 l4 l5 l6 I J r hr
      replace hr : zb_X10_clashing_99 N (zl_X10_clashing N n) l1 l2 l3 l4 l5 l6 I J = some r := hr
      unfold zb_X10_clashing_99 at hr
      refine zs_124_99 ?_
      repeat' first | refine And.intro rfl ?_ | refine And.intro (Or.inl rfl) ?_ | refine And.intro (Or.inr rfl) ?_ | refine And.intro (Nat.le_of_ble_eq_true rfl) ?_ | refine And.intro (And.intro rfl rfl) ?_ | exact rfl
      refine And.intro (fun (h10 : l6 = 0) => ?_) (fun (h10 : ¬ (l6 = 0)) => ?_)
      · rw [if_pos h10] at hr
        refine zs_124_119 ?_
        repeat' first | refine And.intro rfl ?_ | refine And.intro (Or.inl rfl) ?_ | refine And.intro (Or.inr rfl) ?_ | refine And.intro (Nat.le_of_ble_eq_true rfl) ?_ | refine And.intro (And.intro rfl rfl) ?_ | exact rfl
        refine Exists.intro _ (Exists.intro _ (And.intro (zr_factOf F I J d l5) ?_))
        repeat' first | refine And.intro rfl ?_ | refine And.intro (Or.inl rfl) ?_ | refine And.intro (Or.inr rfl) ?_ | refine And.intro (Nat.le_of_ble_eq_true rfl) ?_ | refine And.intro (And.intro rfl rfl) ?_ | exact rfl
        exact zz_wk [true, true, true, true, true, true, false] rfl (ih131 _ _ _ _ _ _ _ _ _ hr)
      · rw [if_neg h10] at hr
        repeat' first | refine And.intro rfl ?_ | refine And.intro (Or.inl rfl) ?_ | refine And.intro (Or.inr rfl) ?_ | refine And.intro (Nat.le_of_ble_eq_true rfl) ?_ | refine And.intro (And.intro rfl rfl) ?_ | exact rfl
        refine Exists.intro _ (Exists.intro _ (And.intro (zr_factOf F I J d l5) ?_))
        repeat' first | refine And.intro rfl ?_ | refine And.intro (Or.inl rfl) ?_ | refine And.intro (Or.inr rfl) ?_ | refine And.intro (Nat.le_of_ble_eq_true rfl) ?_ | refine And.intro (And.intro rfl rfl) ?_ | exact rfl
        exact zz_wk [true, true, true, true, true, true, false] rfl (ih131 _ _ _ _ _ _ _ _ _ hr)
    · intro l1 l2 l3 l4 l5 l6 I J r hr
      replace hr : zb_X10_clashing_131 N (zl_X10_clashing N n) l1 l2 l3 l4 l5 l6 I J = some r := hr
      unfold zb_X10_clashing_131 at hr
      refine zs_124_131 ?_
      repeat' first | refine And.intro rfl ?_ | refine And.intro (Or.inl rfl) ?_ | refine And.intro (Or.inr rfl) ?_ | refine And.intro (Nat.le_of_ble_eq_true rfl) ?_ | refine And.intro (And.intro rfl rfl) ?_ | exact rfl
      exact zz_wk [true, true, true, true, true, true, false] rfl (ih24 _ _ _ _ _ _ _ _ _ hr)
theorem zr_X10_clashing (F : zz_F) (I : Nat → Nat → Int32) (J : Nat → Nat → Int64) (d N : Nat) (l1 : Int32) (r : Int32 × (Nat → Nat → Int32) × (Nat → Nat → Int64)) (h : zf_X10_clashing N l1 I J = some r) : zz_run (d+2) 124 0 [some (.ref 46), some (.int (l1)), none, none, none, none, none] [] (zz_S F I J) (some (.int (r.1))) (zz_S F (I) (J)) := (zq_X10_clashing F d N N).1 l1 0 0 0 0 0 I J r h
def zb_X10_lostIn_0 (N : Nat) (rec : Nat → Int32 → Int32 → Int32 → Int32 → (Nat → Nat → Int32) → (Nat → Nat → Int64) → Option (Int32 × (Nat → Nat → Int32) × (Nat → Nat → Int64))) (l1 : Int32) (l2 : Int32) (l3 : Int32) (l4 : Int32) (I : Nat → Nat → Int32) (J : Nat → Nat → Int64) : Option (Int32 × (Nat → Nat → Int32) × (Nat → Nat → Int64)) := rec 4 l1 0 0 0 I J
def zb_X10_lostIn_4 (N : Nat) (rec : Nat → Int32 → Int32 → Int32 → Int32 → (Nat → Nat → Int32) → (Nat → Nat → Int64) → Option (Int32 × (Nat → Nat → Int32) × (Nat → Nat → Int64))) (l1 : Int32) (l2 : Int32) (l3 : Int32) (l4 : Int32) (I : Nat → Nat → Int32) (J : Nat → Nat → Int64) : Option (Int32 × (Nat → Nat → Int32) × (Nat → Nat → Int64)) := if (I 5 2) ≤ l3 then (some (l2, I, J)) else (if ¬ ((l1 >>> (l3 &&& 31)) &&& 1) = 1 then (rec 4 l1 l2 (l3 + 1) 0 I J) else (rec 4 l1 (l2 + ((zz_f I l3 6) - ((zz_f I l3 6) / 2))) (l3 + 1) 0 I J))
def zl_X10_lostIn (N : Nat) : Nat → Nat → Int32 → Int32 → Int32 → Int32 → (Nat → Nat → Int32) → (Nat → Nat → Int64) → Option (Int32 × (Nat → Nat → Int32) × (Nat → Nat → Int64))
  | 0 => fun _ _ _ _ _ _ _ => none
  | n + 1 => fun pc l1 l2 l3 l4 I J => if pc = 0 then zb_X10_lostIn_0 N (zl_X10_lostIn N n) l1 l2 l3 l4 I J else (if pc = 4 then zb_X10_lostIn_4 N (zl_X10_lostIn N n) l1 l2 l3 l4 I J else none)
def zf_X10_lostIn (N : Nat) (l1 : Int32) (I : Nat → Nat → Int32) (J : Nat → Nat → Int64) : Option (Int32 × (Nat → Nat → Int32) × (Nat → Nat → Int64)) := zl_X10_lostIn N N 0 l1 0 0 0 I J
theorem zq_X10_lostIn (F : zz_F) (d N : Nat) : ∀ n : Nat, (∀ (l1 : Int32) (l2 : Int32) (l3 : Int32) (l4 : Int32) (I : Nat → Nat → Int32) (J : Nat → Nat → Int64) (r : Int32 × (Nat → Nat → Int32) × (Nat → Nat → Int64)), zl_X10_lostIn N n 0 l1 l2 l3 l4 I J = some r → zz_run (d+1) 125 0 [some (.ref 46), some (.int (l1)), none, none, none] [] (zz_S F I J) (some (.int (r.1))) (zz_S F (I) (J))) ∧ (∀ (l1 : Int32) (l2 : Int32) (l3 : Int32) (l4 : Int32) (I : Nat → Nat → Int32) (J : Nat → Nat → Int64) (r : Int32 × (Nat → Nat → Int32) × (Nat → Nat → Int64)), zl_X10_lostIn N n 4 l1 l2 l3 l4 I J = some r → zz_run (d+1) 125 4 [some (.ref 46), some (.int (l1)), some (.int (l2)), some (.int (l3)), none] [] (zz_S F I J) (some (.int (r.1))) (zz_S F (I) (J))) := by
  intro n
  induction n with
  | zero => exact ⟨fun _ _ _ _ _ _ _ h => zz_no h, fun _ _ _ _ _ _ _ h => zz_no h⟩
  | succ n ih =>
    obtain ⟨ih0, ih4⟩ := ih
    refine ⟨?_, ?_⟩
    · intro l1 l2 l3 l4 I J r hr
      replace hr : zb_X10_lostIn_0 N (zl_X10_lostIn N n) l1 l2 l3 l4 I J = some r := hr
      unfold zb_X10_lostIn_0 at hr
      refine zs_125_0 ?_
      repeat' first | refine And.intro rfl ?_ | refine And.intro (Or.inl rfl) ?_ | refine And.intro (Or.inr rfl) ?_ | refine And.intro (Nat.le_of_ble_eq_true rfl) ?_ | refine And.intro (And.intro rfl rfl) ?_ | exact rfl
      exact zz_wk [true, true, true, true, false] rfl (ih4 _ _ _ _ _ _ _ hr)
    · intro l1 l2 l3 l4 I J r hr
      replace hr : zb_X10_lostIn_4 N (zl_X10_lostIn N n) l1 l2 l3 l4 I J = some r := hr
      unfold zb_X10_lostIn_4 at hr
      refine zs_125_4 ?_
      repeat' first | refine And.intro rfl ?_ | refine And.intro (Or.inl rfl) ?_ | refine And.intro (Or.inr rfl) ?_ | refine And.intro (Nat.le_of_ble_eq_true rfl) ?_ | refine And.intro (And.intro rfl rfl) ?_ | exact rfl
      refine And.intro (fun (h1 : (I 5 2) ≤ l3) => ?_) (fun (h1 : ¬ ((I 5 2) ≤ l3)) => ?_)
      · rw [if_pos h1] at hr
        refine zs_125_52 ?_
        repeat' first | refine And.intro rfl ?_ | refine And.intro (Or.inl rfl) ?_ | refine And.intro (Or.inr rfl) ?_ | refine And.intro (Nat.le_of_ble_eq_true rfl) ?_ | refine And.intro (And.intro rfl rfl) ?_ | exact rfl
        cases hr
        repeat' first | refine And.intro rfl ?_ | refine And.intro (Or.inl rfl) ?_ | refine And.intro (Or.inr rfl) ?_ | refine And.intro (Nat.le_of_ble_eq_true rfl) ?_ | refine And.intro (And.intro rfl rfl) ?_ | exact rfl
      · rw [if_neg h1] at hr
        repeat' first | refine And.intro rfl ?_ | refine And.intro (Or.inl rfl) ?_ | refine And.intro (Or.inr rfl) ?_ | refine And.intro (Nat.le_of_ble_eq_true rfl) ?_ | refine And.intro (And.intro rfl rfl) ?_ | exact rfl
        refine And.intro (fun (h2 : ¬ ((l1 >>> (l3 &&& 31)) &&& 1) = 1) => ?_) (fun (h2 : ¬ (¬ ((l1 >>> (l3 &&& 31)) &&& 1) = 1)) => ?_)
        · rw [if_pos h2] at hr
          refine zs_125_46 ?_
          repeat' first | refine And.intro rfl ?_ | refine And.intro (Or.inl rfl) ?_ | refine And.intro (Or.inr rfl) ?_ | refine And.intro (Nat.le_of_ble_eq_true rfl) ?_ | refine And.intro (And.intro rfl rfl) ?_ | exact rfl
          exact zz_wk [true, true, true, true, false] rfl (ih4 _ _ _ _ _ _ _ hr)
        · rw [if_neg h2] at hr
          repeat' first | refine And.intro rfl ?_ | refine And.intro (Or.inl rfl) ?_ | refine And.intro (Or.inr rfl) ?_ | refine And.intro (Nat.le_of_ble_eq_true rfl) ?_ | refine And.intro (And.intro rfl rfl) ?_ | exact rfl
          refine Exists.intro _ (Exists.intro _ (And.intro (zr_of F I J d l3 6) ?_))
          repeat' first | refine And.intro rfl ?_ | refine And.intro (Or.inl rfl) ?_ | refine And.intro (Or.inr rfl) ?_ | refine And.intro (Nat.le_of_ble_eq_true rfl) ?_ | refine And.intro (And.intro rfl rfl) ?_ | exact rfl
          refine And.intro ((by decide : ¬ (2 : Int32) = 0)) ?_
          repeat' first | refine And.intro rfl ?_ | refine And.intro (Or.inl rfl) ?_ | refine And.intro (Or.inr rfl) ?_ | refine And.intro (Nat.le_of_ble_eq_true rfl) ?_ | refine And.intro (And.intro rfl rfl) ?_ | exact rfl
          refine zs_125_46 ?_
          repeat' first | refine And.intro rfl ?_ | refine And.intro (Or.inl rfl) ?_ | refine And.intro (Or.inr rfl) ?_ | refine And.intro (Nat.le_of_ble_eq_true rfl) ?_ | refine And.intro (And.intro rfl rfl) ?_ | exact rfl
          exact zz_wk [true, true, true, true, false] rfl (ih4 _ _ _ _ _ _ _ hr)
theorem zr_X10_lostIn (F : zz_F) (I : Nat → Nat → Int32) (J : Nat → Nat → Int64) (d N : Nat) (l1 : Int32) (r : Int32 × (Nat → Nat → Int32) × (Nat → Nat → Int64)) (h : zf_X10_lostIn N l1 I J = some r) : zz_run (d+1) 125 0 [some (.ref 46), some (.int (l1)), none, none, none] [] (zz_S F I J) (some (.int (r.1))) (zz_S F (I) (J)) := (zq_X10_lostIn F d N N).1 l1 0 0 0 I J r h
def zb_X10_factsNeeded_0 (N : Nat) (rec : Nat → Int32 → Int32 → Int32 → Int32 → (Nat → Nat → Int32) → (Nat → Nat → Int64) → Option (Int32 × (Nat → Nat → Int32) × (Nat → Nat → Int64))) (l1 : Int32) (l2 : Int32) (l3 : Int32) (l4 : Int32) (I : Nat → Nat → Int32) (J : Nat → Nat → Int64) : Option (Int32 × (Nat → Nat → Int32) × (Nat → Nat → Int64)) := rec 4 l1 0 0 0 I J
def zb_X10_factsNeeded_4 (N : Nat) (rec : Nat → Int32 → Int32 → Int32 → Int32 → (Nat → Nat → Int32) → (Nat → Nat → Int64) → Option (Int32 × (Nat → Nat → Int32) × (Nat → Nat → Int64))) (l1 : Int32) (l2 : Int32) (l3 : Int32) (l4 : Int32) (I : Nat → Nat → Int32) (J : Nat → Nat → Int64) : Option (Int32 × (Nat → Nat → Int32) × (Nat → Nat → Int64)) := if (I 5 2) ≤ l3 then (some (l2, I, J)) else (if ¬ ((l1 >>> (l3 &&& 31)) &&& 1) = 1 then (rec 4 l1 l2 (l3 + 1) 0 I J) else (if (zz_f I l3 5) < 0 then (rec 4 l1 l2 (l3 + 1) 0 I J) else (rec 4 l1 (l2 ||| ((1 : Int32) <<< ((zz_f I l3 5) &&& 31))) (l3 + 1) 0 I J)))
def zl_X10_factsNeeded (N : Nat) : Nat → Nat → Int32 → Int32 → Int32 → Int32 → (Nat → Nat → Int32) → (Nat → Nat → Int64) → Option (Int32 × (Nat → Nat → Int32) × (Nat → Nat → Int64))
  | 0 => fun _ _ _ _ _ _ _ => none
  | n + 1 => fun pc l1 l2 l3 l4 I J => if pc = 0 then zb_X10_factsNeeded_0 N (zl_X10_factsNeeded N n) l1 l2 l3 l4 I J else (if pc = 4 then zb_X10_factsNeeded_4 N (zl_X10_factsNeeded N n) l1 l2 l3 l4 I J else none)
def zf_X10_factsNeeded (N : Nat) (l1 : Int32) (I : Nat → Nat → Int32) (J : Nat → Nat → Int64) : Option (Int32 × (Nat → Nat → Int32) × (Nat → Nat → Int64)) := zl_X10_factsNeeded N N 0 l1 0 0 0 I J
theorem zq_X10_factsNeeded (F : zz_F) (d N : Nat) : ∀ n : Nat, (∀ (l1 : Int32) (l2 : Int32) (l3 : Int32) (l4 : Int32) (I : Nat → Nat → Int32) (J : Nat → Nat → Int64) (r : Int32 × (Nat → Nat → Int32) × (Nat → Nat → Int64)), zl_X10_factsNeeded N n 0 l1 l2 l3 l4 I J = some r → zz_run (d+1) 126 0 [some (.ref 46), some (.int (l1)), none, none, none] [] (zz_S F I J) (some (.int (r.1))) (zz_S F (I) (J))) ∧ (∀ (l1 : Int32) (l2 : Int32) (l3 : Int32) (l4 : Int32) (I : Nat → Nat → Int32) (J : Nat → Nat → Int64) (r : Int32 × (Nat → Nat → Int32) × (Nat → Nat → Int64)), zl_X10_factsNeeded N n 4 l1 l2 l3 l4 I J = some r → zz_run (d+1) 126 4 [some (.ref 46), some (.int (l1)), some (.int (l2)), some (.int (l3)), none] [] (zz_S F I J) (some (.int (r.1))) (zz_S F (I) (J))) := by
  intro n
  induction n with
  | zero => exact ⟨fun _ _ _ _ _ _ _ h => zz_no h, fun _ _ _ _ _ _ _ h => zz_no h⟩
  | succ n ih =>
    obtain ⟨ih0, ih4⟩ := ih
    refine ⟨?_, ?_⟩
    · intro l1 l2 l3 l4 I J r hr
      replace hr : zb_X10_factsNeeded_0 N (zl_X10_factsNeeded N n) l1 l2 l3 l4 I J = some r := hr
      unfold zb_X10_factsNeeded_0 at hr
      refine zs_126_0 ?_
      repeat' first | refine And.intro rfl ?_ | refine And.intro (Or.inl rfl) ?_ | refine And.intro (Or.inr rfl) ?_ | refine And.intro (Nat.le_of_ble_eq_true rfl) ?_ | refine And.intro (And.intro rfl rfl) ?_ | exact rfl
      exact zz_wk [true, true, true, true, false] rfl (ih4 _ _ _ _ _ _ _ hr)
    · intro l1 l2 l3 l4 I J r hr
      replace hr : zb_X10_factsNeeded_4 N (zl_X10_factsNeeded N n) l1 l2 l3 l4 I J = some r := hr
      unfold zb_X10_factsNeeded_4 at hr
      refine zs_126_4 ?_
      repeat' first | refine And.intro rfl ?_ | refine And.intro (Or.inl rfl) ?_ | refine And.intro (Or.inr rfl) ?_ | refine And.intro (Nat.le_of_ble_eq_true rfl) ?_ | refine And.intro (And.intro rfl rfl) ?_ | exact rfl
      refine And.intro (fun (h1 : (I 5 2) ≤ l3) => ?_) (fun (h1 : ¬ ((I 5 2) ≤ l3)) => ?_)
      · rw [if_pos h1] at hr
        refine zs_126_53 ?_
        repeat' first | refine And.intro rfl ?_ | refine And.intro (Or.inl rfl) ?_ | refine And.intro (Or.inr rfl) ?_ | refine And.intro (Nat.le_of_ble_eq_true rfl) ?_ | refine And.intro (And.intro rfl rfl) ?_ | exact rfl
        cases hr
        repeat' first | refine And.intro rfl ?_ | refine And.intro (Or.inl rfl) ?_ | refine And.intro (Or.inr rfl) ?_ | refine And.intro (Nat.le_of_ble_eq_true rfl) ?_ | refine And.intro (And.intro rfl rfl) ?_ | exact rfl
      · rw [if_neg h1] at hr
        repeat' first | refine And.intro rfl ?_ | refine And.intro (Or.inl rfl) ?_ | refine And.intro (Or.inr rfl) ?_ | refine And.intro (Nat.le_of_ble_eq_true rfl) ?_ | refine And.intro (And.intro rfl rfl) ?_ | exact rfl
        refine Exists.intro _ (Exists.intro _ (And.intro (zr_of F I J d l3 5) ?_))
        repeat' first | refine And.intro rfl ?_ | refine And.intro (Or.inl rfl) ?_ | refine And.intro (Or.inr rfl) ?_ | refine And.intro (Nat.le_of_ble_eq_true rfl) ?_ | refine And.intro (And.intro rfl rfl) ?_ | exact rfl
        refine And.intro (fun (h2 : ¬ ((l1 >>> (l3 &&& 31)) &&& 1) = 1) => ?_) (fun (h2 : ¬ (¬ ((l1 >>> (l3 &&& 31)) &&& 1) = 1)) => ?_)
        · rw [if_pos h2] at hr
          refine zs_126_47 ?_
          repeat' first | refine And.intro rfl ?_ | refine And.intro (Or.inl rfl) ?_ | refine And.intro (Or.inr rfl) ?_ | refine And.intro (Nat.le_of_ble_eq_true rfl) ?_ | refine And.intro (And.intro rfl rfl) ?_ | exact rfl
          exact zz_wk [true, true, true, true, false] rfl (ih4 _ _ _ _ _ _ _ hr)
        · rw [if_neg h2] at hr
          repeat' first | refine And.intro rfl ?_ | refine And.intro (Or.inl rfl) ?_ | refine And.intro (Or.inr rfl) ?_ | refine And.intro (Nat.le_of_ble_eq_true rfl) ?_ | refine And.intro (And.intro rfl rfl) ?_ | exact rfl
          refine And.intro (fun (h3 : (zz_f I l3 5) < 0) => ?_) (fun (h3 : ¬ ((zz_f I l3 5) < 0)) => ?_)
          · rw [if_pos h3] at hr
            refine zs_126_47 ?_
            repeat' first | refine And.intro rfl ?_ | refine And.intro (Or.inl rfl) ?_ | refine And.intro (Or.inr rfl) ?_ | refine And.intro (Nat.le_of_ble_eq_true rfl) ?_ | refine And.intro (And.intro rfl rfl) ?_ | exact rfl
            exact zz_wk [true, true, true, true, false] rfl (ih4 _ _ _ _ _ _ _ hr)
          · rw [if_neg h3] at hr
            repeat' first | refine And.intro rfl ?_ | refine And.intro (Or.inl rfl) ?_ | refine And.intro (Or.inr rfl) ?_ | refine And.intro (Nat.le_of_ble_eq_true rfl) ?_ | refine And.intro (And.intro rfl rfl) ?_ | exact rfl
            refine zs_126_47 ?_
            repeat' first | refine And.intro rfl ?_ | refine And.intro (Or.inl rfl) ?_ | refine And.intro (Or.inr rfl) ?_ | refine And.intro (Nat.le_of_ble_eq_true rfl) ?_ | refine And.intro (And.intro rfl rfl) ?_ | exact rfl
            exact zz_wk [true, true, true, true, false] rfl (ih4 _ _ _ _ _ _ _ hr)
theorem zr_X10_factsNeeded (F : zz_F) (I : Nat → Nat → Int32) (J : Nat → Nat → Int64) (d N : Nat) (l1 : Int32) (r : Int32 × (Nat → Nat → Int32) × (Nat → Nat → Int64)) (h : zf_X10_factsNeeded N l1 I J = some r) : zz_run (d+1) 126 0 [some (.ref 46), some (.int (l1)), none, none, none] [] (zz_S F I J) (some (.int (r.1))) (zz_S F (I) (J)) := (zq_X10_factsNeeded F d N N).1 l1 0 0 0 I J r h
def zb_X10_sparable_0 (N : Nat) (rec : Nat → Int32 → Int32 → Int32 → Int32 → (Nat → Nat → Int32) → (Nat → Nat → Int64) → Option (Int32 × (Nat → Nat → Int32) × (Nat → Nat → Int64))) (l1 : Int32) (l2 : Int32) (l3 : Int32) (l4 : Int32) (I : Nat → Nat → Int32) (J : Nat → Nat → Int64) : Option (Int32 × (Nat → Nat → Int32) × (Nat → Nat → Int64)) := (zf_X10_clashing N (I 8 2) I J).bind fun r1 => rec 16 r1.1 0 0 0 I J
def zb_X10_sparable_16 (N : Nat) (rec : Nat → Int32 → Int32 → Int32 → Int32 → (Nat → Nat → Int32) → (Nat → Nat → Int64) → Option (Int32 × (Nat → Nat → Int32) × (Nat → Nat → Int64))) (l1 : Int32) (l2 : Int32) (l3 : Int32) (l4 : Int32) (I : Nat → Nat → Int32) (J : Nat → Nat → Int64) : Option (Int32 × (Nat → Nat → Int32) × (Nat → Nat → Int64)) := if (I 5 2) ≤ l3 then (some (l2, I, J)) else (if ((I 8 2) &&& ((1 : Int32) <<< (l3 &&& 31))) = 0 then (rec 16 l1 l2 (l3 + 1) 0 I J) else ((zf_X10_clashing N ((I 8 2) &&& (((1 : Int32) <<< (l3 &&& 31)) ^^^ ((-1)))) I J).bind fun r2 => if ¬ (r2.1 &&& (l1 ^^^ ((-1)))) = 0 then (rec 16 l1 l2 (l3 + 1) 0 I J) else (rec 16 l1 (l2 ||| ((1 : Int32) <<< (l3 &&& 31))) (l3 + 1) 0 I J)))
def zl_X10_sparable (N : Nat) : Nat → Nat → Int32 → Int32 → Int32 → Int32 → (Nat → Nat → Int32) → (Nat → Nat → Int64) → Option (Int32 × (Nat → Nat → Int32) × (Nat → Nat → Int64))
  | 0 => fun _ _ _ _ _ _ _ => none
  | n + 1 => fun pc l1 l2 l3 l4 I J => if pc = 0 then zb_X10_sparable_0 N (zl_X10_sparable N n) l1 l2 l3 l4 I J else (if pc = 16 then zb_X10_sparable_16 N (zl_X10_sparable N n) l1 l2 l3 l4 I J else none)
def zf_X10_sparable (N : Nat)  (I : Nat → Nat → Int32) (J : Nat → Nat → Int64) : Option (Int32 × (Nat → Nat → Int32) × (Nat → Nat → Int64)) := zl_X10_sparable N N 0 0 0 0 0 I J
theorem zq_X10_sparable (F : zz_F) (d N : Nat) : ∀ n : Nat, (∀ (l1 : Int32) (l2 : Int32) (l3 : Int32) (l4 : Int32) (I : Nat → Nat → Int32) (J : Nat → Nat → Int64) (r : Int32 × (Nat → Nat → Int32) × (Nat → Nat → Int64)), zl_X10_sparable N n 0 l1 l2 l3 l4 I J = some r → zz_run (d+3) 127 0 [some (.ref 46), none, none, none, none] [] (zz_S F I J) (some (.int (r.1))) (zz_S F (I) (J))) ∧ (∀ (l1 : Int32) (l2 : Int32) (l3 : Int32) (l4 : Int32) (I : Nat → Nat → Int32) (J : Nat → Nat → Int64) (r : Int32 × (Nat → Nat → Int32) × (Nat → Nat → Int64)), zl_X10_sparable N n 16 l1 l2 l3 l4 I J = some r → zz_run (d+3) 127 16 [some (.ref 46), some (.int (l1)), some (.int (l2)), some (.int (l3)), none] [] (zz_S F I J) (some (.int (r.1))) (zz_S F (I) (J))) := by
  intro n
  induction n with
  | zero => exact ⟨fun _ _ _ _ _ _ _ h => zz_no h, fun _ _ _ _ _ _ _ h => zz_no h⟩
  | succ n ih =>
    obtain ⟨ih0, ih16⟩ := ih
    refine ⟨?_, ?_⟩
    · intro l1 l2 l3 l4 I J r hr
      replace hr : zb_X10_sparable_0 N (zl_X10_sparable N n) l1 l2 l3 l4 I J = some r := hr
      unfold zb_X10_sparable_0 at hr
      refine zs_127_0 ?_
      repeat' first | refine And.intro rfl ?_ | refine And.intro (Or.inl rfl) ?_ | refine And.intro (Or.inr rfl) ?_ | refine And.intro (Nat.le_of_ble_eq_true rfl) ?_ | refine And.intro (And.intro rfl rfl) ?_ | exact rfl
      obtain ⟨r1, cr1, hr⟩ := Option.bind_eq_some_iff.mp hr
      refine Exists.intro _ (Exists.intro _ (And.intro (zr_X10_clashing F I J d N (I 8 2) r1 cr1) ?_))
      repeat' first | refine And.intro rfl ?_ | refine And.intro (Or.inl rfl) ?_ | refine And.intro (Or.inr rfl) ?_ | refine And.intro (Nat.le_of_ble_eq_true rfl) ?_ | refine And.intro (And.intro rfl rfl) ?_ | exact rfl
      exact zz_wk [true, true, true, true, false] rfl (ih16 _ _ _ _ _ _ _ hr)
    · intro l1 l2 l3 l4 I J r hr
      replace hr : zb_X10_sparable_16 N (zl_X10_sparable N n) l1 l2 l3 l4 I J = some r := hr
      unfold zb_X10_sparable_16 at hr
      refine zs_127_16 ?_
      repeat' first | refine And.intro rfl ?_ | refine And.intro (Or.inl rfl) ?_ | refine And.intro (Or.inr rfl) ?_ | refine And.intro (Nat.le_of_ble_eq_true rfl) ?_ | refine And.intro (And.intro rfl rfl) ?_ | exact rfl
      refine And.intro (fun (h1 : (I 5 2) ≤ l3) => ?_) (fun (h1 : ¬ ((I 5 2) ≤ l3)) => ?_)
      · rw [if_pos h1] at hr
        refine zs_127_79 ?_
        repeat' first | refine And.intro rfl ?_ | refine And.intro (Or.inl rfl) ?_ | refine And.intro (Or.inr rfl) ?_ | refine And.intro (Nat.le_of_ble_eq_true rfl) ?_ | refine And.intro (And.intro rfl rfl) ?_ | exact rfl
        cases hr
        repeat' first | refine And.intro rfl ?_ | refine And.intro (Or.inl rfl) ?_ | refine And.intro (Or.inr rfl) ?_ | refine And.intro (Nat.le_of_ble_eq_true rfl) ?_ | refine And.intro (And.intro rfl rfl) ?_ | exact rfl
      · rw [if_neg h1] at hr
        repeat' first | refine And.intro rfl ?_ | refine And.intro (Or.inl rfl) ?_ | refine And.intro (Or.inr rfl) ?_ | refine And.intro (Nat.le_of_ble_eq_true rfl) ?_ | refine And.intro (And.intro rfl rfl) ?_ | exact rfl
        refine And.intro (fun (h2 : ((I 8 2) &&& ((1 : Int32) <<< (l3 &&& 31))) = 0) => ?_) (fun (h2 : ¬ (((I 8 2) &&& ((1 : Int32) <<< (l3 &&& 31))) = 0)) => ?_)
        · rw [if_pos h2] at hr
          refine zs_127_73 ?_
          repeat' first | refine And.intro rfl ?_ | refine And.intro (Or.inl rfl) ?_ | refine And.intro (Or.inr rfl) ?_ | refine And.intro (Nat.le_of_ble_eq_true rfl) ?_ | refine And.intro (And.intro rfl rfl) ?_ | exact rfl
          exact zz_wk [true, true, true, true, false] rfl (ih16 _ _ _ _ _ _ _ hr)
        · rw [if_neg h2] at hr
          repeat' first | refine And.intro rfl ?_ | refine And.intro (Or.inl rfl) ?_ | refine And.intro (Or.inr rfl) ?_ | refine And.intro (Nat.le_of_ble_eq_true rfl) ?_ | refine And.intro (And.intro rfl rfl) ?_ | exact rfl
          obtain ⟨r2, cr2, hr⟩ := Option.bind_eq_some_iff.mp hr
          refine Exists.intro _ (Exists.intro _ (And.intro (zr_X10_clashing F I J d N ((I 8 2) &&& (((1 : Int32) <<< (l3 &&& 31)) ^^^ ((-1)))) r2 cr2) ?_))
          repeat' first | refine And.intro rfl ?_ | refine And.intro (Or.inl rfl) ?_ | refine And.intro (Or.inr rfl) ?_ | refine And.intro (Nat.le_of_ble_eq_true rfl) ?_ | refine And.intro (And.intro rfl rfl) ?_ | exact rfl
          refine And.intro (fun (h3 : ¬ (r2.1 &&& (l1 ^^^ ((-1)))) = 0) => ?_) (fun (h3 : ¬ (¬ (r2.1 &&& (l1 ^^^ ((-1)))) = 0)) => ?_)
          · rw [if_pos h3] at hr
            refine zs_127_73 ?_
            repeat' first | refine And.intro rfl ?_ | refine And.intro (Or.inl rfl) ?_ | refine And.intro (Or.inr rfl) ?_ | refine And.intro (Nat.le_of_ble_eq_true rfl) ?_ | refine And.intro (And.intro rfl rfl) ?_ | exact rfl
            exact zz_wk [true, true, true, true, false] rfl (ih16 _ _ _ _ _ _ _ hr)
          · rw [if_neg h3] at hr
            repeat' first | refine And.intro rfl ?_ | refine And.intro (Or.inl rfl) ?_ | refine And.intro (Or.inr rfl) ?_ | refine And.intro (Nat.le_of_ble_eq_true rfl) ?_ | refine And.intro (And.intro rfl rfl) ?_ | exact rfl
            refine zs_127_73 ?_
            repeat' first | refine And.intro rfl ?_ | refine And.intro (Or.inl rfl) ?_ | refine And.intro (Or.inr rfl) ?_ | refine And.intro (Nat.le_of_ble_eq_true rfl) ?_ | refine And.intro (And.intro rfl rfl) ?_ | exact rfl
            exact zz_wk [true, true, true, true, false] rfl (ih16 _ _ _ _ _ _ _ hr)
theorem zr_X10_sparable (F : zz_F) (I : Nat → Nat → Int32) (J : Nat → Nat → Int64) (d N : Nat)  (r : Int32 × (Nat → Nat → Int32) × (Nat → Nat → Int64)) (h : zf_X10_sparable N  I J = some r) : zz_run (d+3) 127 0 [some (.ref 46), none, none, none, none] [] (zz_S F I J) (some (.int (r.1))) (zz_S F (I) (J)) := (zq_X10_sparable F d N N).1 0 0 0 0 I J r h
def zb_X10_broughtInOrder_0 (N : Nat) (rec : Nat → Int32 → Int32 → Int32 → Int32 → Int32 → (Nat → Nat → Int32) → (Nat → Nat → Int64) → Option (Int32 × (Nat → Nat → Int32) × (Nat → Nat → Int64))) (l1 : Int32) (l2 : Int32) (l3 : Int32) (l4 : Int32) (l5 : Int32) (I : Nat → Nat → Int32) (J : Nat → Nat → Int64) : Option (Int32 × (Nat → Nat → Int32) × (Nat → Nat → Int64)) := rec 32 0 ((I 8 2) &&& (zv_X9_scenesOf I l1)) (zz_kn I l1) 0 0 I J
def zb_X10_broughtInOrder_32 (N : Nat) (rec : Nat → Int32 → Int32 → Int32 → Int32 → Int32 → (Nat → Nat → Int32) → (Nat → Nat → Int64) → Option (Int32 × (Nat → Nat → Int32) × (Nat → Nat → Int64))) (l1 : Int32) (l2 : Int32) (l3 : Int32) (l4 : Int32) (l5 : Int32) (I : Nat → Nat → Int32) (J : Nat → Nat → Int64) : Option (Int32 × (Nat → Nat → Int32) × (Nat → Nat → Int64)) := if (I 5 2) ≤ l5 then (some (l4, I, J)) else (if ¬ ((l2 >>> (l5 &&& 31)) &&& 1) = 1 then (rec 32 0 l2 l3 l4 (l5 + 1) I J) else (rec 32 0 l2 (l3 ||| (zz_fact I l5)) (l4 + (zz_cheer I l5 l3)) (l5 + 1) I J))
def zl_X10_broughtInOrder (N : Nat) : Nat → Nat → Int32 → Int32 → Int32 → Int32 → Int32 → (Nat → Nat → Int32) → (Nat → Nat → Int64) → Option (Int32 × (Nat → Nat → Int32) × (Nat → Nat → Int64))
  | 0 => fun _ _ _ _ _ _ _ _ => none
  | n + 1 => fun pc l1 l2 l3 l4 l5 I J => if pc = 0 then zb_X10_broughtInOrder_0 N (zl_X10_broughtInOrder N n) l1 l2 l3 l4 l5 I J else (if pc = 32 then zb_X10_broughtInOrder_32 N (zl_X10_broughtInOrder N n) l1 l2 l3 l4 l5 I J else none)
def zf_X10_broughtInOrder (N : Nat) (l1 : Int32) (I : Nat → Nat → Int32) (J : Nat → Nat → Int64) : Option (Int32 × (Nat → Nat → Int32) × (Nat → Nat → Int64)) := zl_X10_broughtInOrder N N 0 l1 0 0 0 0 I J
theorem zq_X10_broughtInOrder (F : zz_F) (d N : Nat) : ∀ n : Nat, (∀ (l1 : Int32) (l2 : Int32) (l3 : Int32) (l4 : Int32) (l5 : Int32) (I : Nat → Nat → Int32) (J : Nat → Nat → Int64) (r : Int32 × (Nat → Nat → Int32) × (Nat → Nat → Int64)), zl_X10_broughtInOrder N n 0 l1 l2 l3 l4 l5 I J = some r → zz_run (d+3) 128 0 [some (.ref 46), some (.int (l1)), none, none, none, none] [] (zz_S F I J) (some (.int (r.1))) (zz_S F (I) (J))) ∧ (∀ (l1 : Int32) (l2 : Int32) (l3 : Int32) (l4 : Int32) (l5 : Int32) (I : Nat → Nat → Int32) (J : Nat → Nat → Int64) (r : Int32 × (Nat → Nat → Int32) × (Nat → Nat → Int64)), zl_X10_broughtInOrder N n 32 l1 l2 l3 l4 l5 I J = some r → zz_run (d+3) 128 32 [some (.ref 46), none, some (.int (l2)), some (.int (l3)), some (.int (l4)), some (.int (l5))] [] (zz_S F I J) (some (.int (r.1))) (zz_S F (I) (J))) := by
  intro n
  induction n with
  | zero => exact ⟨fun _ _ _ _ _ _ _ _ h => zz_no h, fun _ _ _ _ _ _ _ _ h => zz_no h⟩
  | succ n ih =>
    obtain ⟨ih0, ih32⟩ := ih
    refine ⟨?_, ?_⟩
    · intro l1 l2 l3 l4 l5 I J r hr
      replace hr : zb_X10_broughtInOrder_0 N (zl_X10_broughtInOrder N n) l1 l2 l3 l4 l5 I J = some r := hr
      unfold zb_X10_broughtInOrder_0 at hr
      refine zs_128_0 ?_
      repeat' first | refine And.intro rfl ?_ | refine And.intro (Or.inl rfl) ?_ | refine And.intro (Or.inr rfl) ?_ | refine And.intro (Nat.le_of_ble_eq_true rfl) ?_ | refine And.intro (And.intro rfl rfl) ?_ | exact rfl
      refine Exists.intro _ (Exists.intro _ (And.intro (zr_X9_scenesOf F I J (d+2) l1) ?_))
      repeat' first | refine And.intro rfl ?_ | refine And.intro (Or.inl rfl) ?_ | refine And.intro (Or.inr rfl) ?_ | refine And.intro (Nat.le_of_ble_eq_true rfl) ?_ | refine And.intro (And.intro rfl rfl) ?_ | exact rfl
      refine Exists.intro _ (Exists.intro _ (And.intro (zr_knownIn F I J (d+2) l1) ?_))
      repeat' first | refine And.intro rfl ?_ | refine And.intro (Or.inl rfl) ?_ | refine And.intro (Or.inr rfl) ?_ | refine And.intro (Nat.le_of_ble_eq_true rfl) ?_ | refine And.intro (And.intro rfl rfl) ?_ | exact rfl
      exact zz_wk [true, false, true, true, true, true] rfl (ih32 _ _ _ _ _ _ _ _ hr)
    · intro l1 l2 l3 l4 l5 I J r hr
      replace hr : zb_X10_broughtInOrder_32 N (zl_X10_broughtInOrder N n) l1 l2 l3 l4 l5 I J = some r := hr
      unfold zb_X10_broughtInOrder_32 at hr
      refine zs_128_32 ?_
      repeat' first | refine And.intro rfl ?_ | refine And.intro (Or.inl rfl) ?_ | refine And.intro (Or.inr rfl) ?_ | refine And.intro (Nat.le_of_ble_eq_true rfl) ?_ | refine And.intro (And.intro rfl rfl) ?_ | exact rfl
      refine And.intro (fun (h1 : (I 5 2) ≤ l5) => ?_) (fun (h1 : ¬ ((I 5 2) ≤ l5)) => ?_)
      · rw [if_pos h1] at hr
        refine zs_128_87 ?_
        repeat' first | refine And.intro rfl ?_ | refine And.intro (Or.inl rfl) ?_ | refine And.intro (Or.inr rfl) ?_ | refine And.intro (Nat.le_of_ble_eq_true rfl) ?_ | refine And.intro (And.intro rfl rfl) ?_ | exact rfl
        cases hr
        repeat' first | refine And.intro rfl ?_ | refine And.intro (Or.inl rfl) ?_ | refine And.intro (Or.inr rfl) ?_ | refine And.intro (Nat.le_of_ble_eq_true rfl) ?_ | refine And.intro (And.intro rfl rfl) ?_ | exact rfl
      · rw [if_neg h1] at hr
        repeat' first | refine And.intro rfl ?_ | refine And.intro (Or.inl rfl) ?_ | refine And.intro (Or.inr rfl) ?_ | refine And.intro (Nat.le_of_ble_eq_true rfl) ?_ | refine And.intro (And.intro rfl rfl) ?_ | exact rfl
        refine And.intro (fun (h2 : ¬ ((l2 >>> (l5 &&& 31)) &&& 1) = 1) => ?_) (fun (h2 : ¬ (¬ ((l2 >>> (l5 &&& 31)) &&& 1) = 1)) => ?_)
        · rw [if_pos h2] at hr
          refine zs_128_81 ?_
          repeat' first | refine And.intro rfl ?_ | refine And.intro (Or.inl rfl) ?_ | refine And.intro (Or.inr rfl) ?_ | refine And.intro (Nat.le_of_ble_eq_true rfl) ?_ | refine And.intro (And.intro rfl rfl) ?_ | exact rfl
          exact zz_wk [true, false, true, true, true, true] rfl (ih32 _ _ _ _ _ _ _ _ hr)
        · rw [if_neg h2] at hr
          repeat' first | refine And.intro rfl ?_ | refine And.intro (Or.inl rfl) ?_ | refine And.intro (Or.inr rfl) ?_ | refine And.intro (Nat.le_of_ble_eq_true rfl) ?_ | refine And.intro (And.intro rfl rfl) ?_ | exact rfl
          refine Exists.intro _ (Exists.intro _ (And.intro (zr_cheerWith F I J d l5 l3) ?_))
          repeat' first | refine And.intro rfl ?_ | refine And.intro (Or.inl rfl) ?_ | refine And.intro (Or.inr rfl) ?_ | refine And.intro (Nat.le_of_ble_eq_true rfl) ?_ | refine And.intro (And.intro rfl rfl) ?_ | exact rfl
          refine Exists.intro _ (Exists.intro _ (And.intro (zr_factOf F I J (d+1) l5) ?_))
          repeat' first | refine And.intro rfl ?_ | refine And.intro (Or.inl rfl) ?_ | refine And.intro (Or.inr rfl) ?_ | refine And.intro (Nat.le_of_ble_eq_true rfl) ?_ | refine And.intro (And.intro rfl rfl) ?_ | exact rfl
          refine zs_128_81 ?_
          repeat' first | refine And.intro rfl ?_ | refine And.intro (Or.inl rfl) ?_ | refine And.intro (Or.inr rfl) ?_ | refine And.intro (Nat.le_of_ble_eq_true rfl) ?_ | refine And.intro (And.intro rfl rfl) ?_ | exact rfl
          exact zz_wk [true, false, true, true, true, true] rfl (ih32 _ _ _ _ _ _ _ _ hr)
theorem zr_X10_broughtInOrder (F : zz_F) (I : Nat → Nat → Int32) (J : Nat → Nat → Int64) (d N : Nat) (l1 : Int32) (r : Int32 × (Nat → Nat → Int32) × (Nat → Nat → Int64)) (h : zf_X10_broughtInOrder N l1 I J = some r) : zz_run (d+3) 128 0 [some (.ref 46), some (.int (l1)), none, none, none, none] [] (zz_S F I J) (some (.int (r.1))) (zz_S F (I) (J)) := (zq_X10_broughtInOrder F d N N).1 l1 0 0 0 0 I J r h
def zb_X10_gather_0 (N : Nat) (rec : Nat → Int32 → Int32 → Int32 → Int32 → (Nat → Nat → Int32) → (Nat → Nat → Int64) → Option (Int32 × (Nat → Nat → Int32) × (Nat → Nat → Int64))) (l1 : Int32) (l2 : Int32) (l3 : Int32) (l4 : Int32) (I : Nat → Nat → Int32) (J : Nat → Nat → Int64) : Option (Int32 × (Nat → Nat → Int32) × (Nat → Nat → Int64)) := rec 22 0 ((I 8 2) &&& (zv_X9_scenesOf I l1)) 0 0 I J
def zb_X10_gather_22 (N : Nat) (rec : Nat → Int32 → Int32 → Int32 → Int32 → (Nat → Nat → Int32) → (Nat → Nat → Int64) → Option (Int32 × (Nat → Nat → Int32) × (Nat → Nat → Int64))) (l1 : Int32) (l2 : Int32) (l3 : Int32) (l4 : Int32) (I : Nat → Nat → Int32) (J : Nat → Nat → Int64) : Option (Int32 × (Nat → Nat → Int32) × (Nat → Nat → Int64)) := if (I 5 2) ≤ l4 then (some (l3, I, J)) else (if ¬ ((l2 >>> (l4 &&& 31)) &&& 1) = 1 then (rec 22 0 l2 l3 (l4 + 1) I J) else (if (nI 12) ≤ l3 then (rec 22 0 l2 l3 (l4 + 1) I J) else (if ¬ (l3 < 0 ∨ 12 ≤ l3.toNatClampNeg) then (rec 22 0 l2 (l3 + 1) (l4 + 1) (zz_u I 47 l3.toNatClampNeg l4) J) else none)))
def zl_X10_gather (N : Nat) : Nat → Nat → Int32 → Int32 → Int32 → Int32 → (Nat → Nat → Int32) → (Nat → Nat → Int64) → Option (Int32 × (Nat → Nat → Int32) × (Nat → Nat → Int64))
  | 0 => fun _ _ _ _ _ _ _ => none
  | n + 1 => fun pc l1 l2 l3 l4 I J => if pc = 0 then zb_X10_gather_0 N (zl_X10_gather N n) l1 l2 l3 l4 I J else (if pc = 22 then zb_X10_gather_22 N (zl_X10_gather N n) l1 l2 l3 l4 I J else none)
def zf_X10_gather (N : Nat) (l1 : Int32) (I : Nat → Nat → Int32) (J : Nat → Nat → Int64) : Option (Int32 × (Nat → Nat → Int32) × (Nat → Nat → Int64)) := zl_X10_gather N N 0 l1 0 0 0 I J
theorem zq_X10_gather (F : zz_F) (d N : Nat) : ∀ n : Nat, (∀ (l1 : Int32) (l2 : Int32) (l3 : Int32) (l4 : Int32) (I : Nat → Nat → Int32) (J : Nat → Nat → Int64) (r : Int32 × (Nat → Nat → Int32) × (Nat → Nat → Int64)), zl_X10_gather N n 0 l1 l2 l3 l4 I J = some r → zz_run (d+1) 129 0 [some (.ref 46), some (.int (l1)), none, none, none] [] (zz_S F I J) (some (.int (r.1))) (zz_S F (r.2.1) (J))) ∧ (∀ (l1 : Int32) (l2 : Int32) (l3 : Int32) (l4 : Int32) (I : Nat → Nat → Int32) (J : Nat → Nat → Int64) (r : Int32 × (Nat → Nat → Int32) × (Nat → Nat → Int64)), zl_X10_gather N n 22 l1 l2 l3 l4 I J = some r → zz_run (d+1) 129 22 [some (.ref 46), none, some (.int (l2)), some (.int (l3)), some (.int (l4))] [] (zz_S F I J) (some (.int (r.1))) (zz_S F (r.2.1) (J))) := by
  intro n
  induction n with
  | zero => exact ⟨fun _ _ _ _ _ _ _ h => zz_no h, fun _ _ _ _ _ _ _ h => zz_no h⟩
  | succ n ih =>
    obtain ⟨ih0, ih22⟩ := ih
    refine ⟨?_, ?_⟩
    · intro l1 l2 l3 l4 I J r hr
      replace hr : zb_X10_gather_0 N (zl_X10_gather N n) l1 l2 l3 l4 I J = some r := hr
      unfold zb_X10_gather_0 at hr
      refine zs_129_0 ?_
      repeat' first | refine And.intro rfl ?_ | refine And.intro (Or.inl rfl) ?_ | refine And.intro (Or.inr rfl) ?_ | refine And.intro (Nat.le_of_ble_eq_true rfl) ?_ | refine And.intro (And.intro rfl rfl) ?_ | exact rfl
      refine Exists.intro _ (Exists.intro _ (And.intro (zr_X9_scenesOf F I J d l1) ?_))
      repeat' first | refine And.intro rfl ?_ | refine And.intro (Or.inl rfl) ?_ | refine And.intro (Or.inr rfl) ?_ | refine And.intro (Nat.le_of_ble_eq_true rfl) ?_ | refine And.intro (And.intro rfl rfl) ?_ | exact rfl
      exact zz_wk [true, false, true, true, true] rfl (ih22 _ _ _ _ _ _ _ hr)
    · intro l1 l2 l3 l4 I J r hr
      replace hr : zb_X10_gather_22 N (zl_X10_gather N n) l1 l2 l3 l4 I J = some r := hr
      unfold zb_X10_gather_22 at hr
      refine zs_129_22 ?_
      repeat' first | refine And.intro rfl ?_ | refine And.intro (Or.inl rfl) ?_ | refine And.intro (Or.inr rfl) ?_ | refine And.intro (Nat.le_of_ble_eq_true rfl) ?_ | refine And.intro (And.intro rfl rfl) ?_ | exact rfl
      refine And.intro (fun (h1 : (I 5 2) ≤ l4) => ?_) (fun (h1 : ¬ ((I 5 2) ≤ l4)) => ?_)
      · rw [if_pos h1] at hr
        refine zs_129_70 ?_
        repeat' first | refine And.intro rfl ?_ | refine And.intro (Or.inl rfl) ?_ | refine And.intro (Or.inr rfl) ?_ | refine And.intro (Nat.le_of_ble_eq_true rfl) ?_ | refine And.intro (And.intro rfl rfl) ?_ | exact rfl
        cases hr
        repeat' first | refine And.intro rfl ?_ | refine And.intro (Or.inl rfl) ?_ | refine And.intro (Or.inr rfl) ?_ | refine And.intro (Nat.le_of_ble_eq_true rfl) ?_ | refine And.intro (And.intro rfl rfl) ?_ | exact rfl
      · rw [if_neg h1] at hr
        repeat' first | refine And.intro rfl ?_ | refine And.intro (Or.inl rfl) ?_ | refine And.intro (Or.inr rfl) ?_ | refine And.intro (Nat.le_of_ble_eq_true rfl) ?_ | refine And.intro (And.intro rfl rfl) ?_ | exact rfl
        refine And.intro (fun (h2 : ¬ ((l2 >>> (l4 &&& 31)) &&& 1) = 1) => ?_) (fun (h2 : ¬ (¬ ((l2 >>> (l4 &&& 31)) &&& 1) = 1)) => ?_)
        · rw [if_pos h2] at hr
          refine zs_129_64 ?_
          repeat' first | refine And.intro rfl ?_ | refine And.intro (Or.inl rfl) ?_ | refine And.intro (Or.inr rfl) ?_ | refine And.intro (Nat.le_of_ble_eq_true rfl) ?_ | refine And.intro (And.intro rfl rfl) ?_ | exact rfl
          exact zz_wk [true, false, true, true, true] rfl (ih22 _ _ _ _ _ _ _ hr)
        · rw [if_neg h2] at hr
          repeat' first | refine And.intro rfl ?_ | refine And.intro (Or.inl rfl) ?_ | refine And.intro (Or.inr rfl) ?_ | refine And.intro (Nat.le_of_ble_eq_true rfl) ?_ | refine And.intro (And.intro rfl rfl) ?_ | exact rfl
          refine And.intro (fun (h3 : (nI 12) ≤ l3) => ?_) (fun (h3 : ¬ ((nI 12) ≤ l3)) => ?_)
          · rw [if_pos h3] at hr
            refine zs_129_64 ?_
            repeat' first | refine And.intro rfl ?_ | refine And.intro (Or.inl rfl) ?_ | refine And.intro (Or.inr rfl) ?_ | refine And.intro (Nat.le_of_ble_eq_true rfl) ?_ | refine And.intro (And.intro rfl rfl) ?_ | exact rfl
            exact zz_wk [true, false, true, true, true] rfl (ih22 _ _ _ _ _ _ _ hr)
          · rw [if_neg h3] at hr
            repeat' first | refine And.intro rfl ?_ | refine And.intro (Or.inl rfl) ?_ | refine And.intro (Or.inr rfl) ?_ | refine And.intro (Nat.le_of_ble_eq_true rfl) ?_ | refine And.intro (And.intro rfl rfl) ?_ | exact rfl
            have g1 : ¬ (l3 < 0 ∨ 12 ≤ l3.toNatClampNeg) := zz_g hr
            replace hr := zz_gt hr
            refine And.intro (g1) ?_
            repeat' first | refine And.intro rfl ?_ | refine And.intro (Or.inl rfl) ?_ | refine And.intro (Or.inr rfl) ?_ | refine And.intro (Nat.le_of_ble_eq_true rfl) ?_ | refine And.intro (And.intro rfl rfl) ?_ | exact rfl
            refine zs_129_64 ?_
            repeat' first | refine And.intro rfl ?_ | refine And.intro (Or.inl rfl) ?_ | refine And.intro (Or.inr rfl) ?_ | refine And.intro (Nat.le_of_ble_eq_true rfl) ?_ | refine And.intro (And.intro rfl rfl) ?_ | exact rfl
            exact zz_wk [true, false, true, true, true] rfl (ih22 _ _ _ _ _ _ _ hr)
theorem zr_X10_gather (F : zz_F) (I : Nat → Nat → Int32) (J : Nat → Nat → Int64) (d N : Nat) (l1 : Int32) (r : Int32 × (Nat → Nat → Int32) × (Nat → Nat → Int64)) (h : zf_X10_gather N l1 I J = some r) : zz_run (d+1) 129 0 [some (.ref 46), some (.int (l1)), none, none, none] [] (zz_S F I J) (some (.int (r.1))) (zz_S F (r.2.1) (J)) := (zq_X10_gather F d N N).1 l1 0 0 0 I J r h
def zb_X10_toldBy_0 (N : Nat) (rec : Nat → Int32 → Int32 → Int32 → Int32 → (Nat → Nat → Int32) → (Nat → Nat → Int64) → Option (Int32 × (Nat → Nat → Int32) × (Nat → Nat → Int64))) (l1 : Int32) (l2 : Int32) (l3 : Int32) (l4 : Int32) (I : Nat → Nat → Int32) (J : Nat → Nat → Int64) : Option (Int32 × (Nat → Nat → Int32) × (Nat → Nat → Int64)) := rec 5 l1 l2 0 0 I J
def zb_X10_toldBy_5 (N : Nat) (rec : Nat → Int32 → Int32 → Int32 → Int32 → (Nat → Nat → Int32) → (Nat → Nat → Int64) → Option (Int32 × (Nat → Nat → Int32) × (Nat → Nat → Int64))) (l1 : Int32) (l2 : Int32) (l3 : Int32) (l4 : Int32) (I : Nat → Nat → Int32) (J : Nat → Nat → Int64) : Option (Int32 × (Nat → Nat → Int32) × (Nat → Nat → Int64)) := if l2 ≤ l4 then (some (l3, I, J)) else (if (nI 12) ≤ l4 then (some (l3, I, J)) else (if ¬ ((l1 >>> (l4 &&& 31)) &&& 1) = 1 then (rec 5 l1 l2 l3 (l4 + 1) I J) else (if ¬ (l4 < 0 ∨ 12 ≤ l4.toNatClampNeg) then (rec 5 l1 l2 (l3 ||| (zz_fact I (I 47 l4.toNatClampNeg))) (l4 + 1) I J) else none)))
def zl_X10_toldBy (N : Nat) : Nat → Nat → Int32 → Int32 → Int32 → Int32 → (Nat → Nat → Int32) → (Nat → Nat → Int64) → Option (Int32 × (Nat → Nat → Int32) × (Nat → Nat → Int64))
  | 0 => fun _ _ _ _ _ _ _ => none
  | n + 1 => fun pc l1 l2 l3 l4 I J => if pc = 0 then zb_X10_toldBy_0 N (zl_X10_toldBy N n) l1 l2 l3 l4 I J else (if pc = 5 then zb_X10_toldBy_5 N (zl_X10_toldBy N n) l1 l2 l3 l4 I J else none)
def zf_X10_toldBy (N : Nat) (l1 : Int32) (l2 : Int32) (I : Nat → Nat → Int32) (J : Nat → Nat → Int64) : Option (Int32 × (Nat → Nat → Int32) × (Nat → Nat → Int64)) := zl_X10_toldBy N N 0 l1 l2 0 0 I J
theorem zq_X10_toldBy (F : zz_F) (d N : Nat) : ∀ n : Nat, (∀ (l1 : Int32) (l2 : Int32) (l3 : Int32) (l4 : Int32) (I : Nat → Nat → Int32) (J : Nat → Nat → Int64) (r : Int32 × (Nat → Nat → Int32) × (Nat → Nat → Int64)), zl_X10_toldBy N n 0 l1 l2 l3 l4 I J = some r → zz_run (d+2) 131 0 [some (.ref 46), some (.int (l1)), some (.int (l2)), none, none] [] (zz_S F I J) (some (.int (r.1))) (zz_S F (I) (J))) ∧ (∀ (l1 : Int32) (l2 : Int32) (l3 : Int32) (l4 : Int32) (I : Nat → Nat → Int32) (J : Nat → Nat → Int64) (r : Int32 × (Nat → Nat → Int32) × (Nat → Nat → Int64)), zl_X10_toldBy N n 5 l1 l2 l3 l4 I J = some r → zz_run (d+2) 131 5 [some (.ref 46), some (.int (l1)), some (.int (l2)), some (.int (l3)), some (.int (l4))] [] (zz_S F I J) (some (.int (r.1))) (zz_S F (I) (J))) := by
  intro n
  induction n with
  | zero => exact ⟨fun _ _ _ _ _ _ _ h => zz_no h, fun _ _ _ _ _ _ _ h => zz_no h⟩
  | succ n ih =>
    obtain ⟨ih0, ih5⟩ := ih
    refine ⟨?_, ?_⟩
    · intro l1 l2 l3 l4 I J r hr
      replace hr : zb_X10_toldBy_0 N (zl_X10_toldBy N n) l1 l2 l3 l4 I J = some r := hr
      unfold zb_X10_toldBy_0 at hr
      refine zs_131_0 ?_
      repeat' first | refine And.intro rfl ?_ | refine And.intro (Or.inl rfl) ?_ | refine And.intro (Or.inr rfl) ?_ | refine And.intro (Nat.le_of_ble_eq_true rfl) ?_ | refine And.intro (And.intro rfl rfl) ?_ | exact rfl
      exact zz_wk [true, true, true, true, true] rfl (ih5 _ _ _ _ _ _ _ hr)
    · intro l1 l2 l3 l4 I J r hr
      replace hr : zb_X10_toldBy_5 N (zl_X10_toldBy N n) l1 l2 l3 l4 I J = some r := hr
      unfold zb_X10_toldBy_5 at hr
      refine zs_131_5 ?_
      repeat' first | refine And.intro rfl ?_ | refine And.intro (Or.inl rfl) ?_ | refine And.intro (Or.inr rfl) ?_ | refine And.intro (Nat.le_of_ble_eq_true rfl) ?_ | refine And.intro (And.intro rfl rfl) ?_ | exact rfl
      refine And.intro (fun (h1 : l2 ≤ l4) => ?_) (fun (h1 : ¬ (l2 ≤ l4)) => ?_)
      · rw [if_pos h1] at hr
        refine zs_131_54 ?_
        repeat' first | refine And.intro rfl ?_ | refine And.intro (Or.inl rfl) ?_ | refine And.intro (Or.inr rfl) ?_ | refine And.intro (Nat.le_of_ble_eq_true rfl) ?_ | refine And.intro (And.intro rfl rfl) ?_ | exact rfl
        cases hr
        repeat' first | refine And.intro rfl ?_ | refine And.intro (Or.inl rfl) ?_ | refine And.intro (Or.inr rfl) ?_ | refine And.intro (Nat.le_of_ble_eq_true rfl) ?_ | refine And.intro (And.intro rfl rfl) ?_ | exact rfl
      · rw [if_neg h1] at hr
        repeat' first | refine And.intro rfl ?_ | refine And.intro (Or.inl rfl) ?_ | refine And.intro (Or.inr rfl) ?_ | refine And.intro (Nat.le_of_ble_eq_true rfl) ?_ | refine And.intro (And.intro rfl rfl) ?_ | exact rfl
        refine And.intro (fun (h2 : (nI 12) ≤ l4) => ?_) (fun (h2 : ¬ ((nI 12) ≤ l4)) => ?_)
        · rw [if_pos h2] at hr
          refine zs_131_54 ?_
          repeat' first | refine And.intro rfl ?_ | refine And.intro (Or.inl rfl) ?_ | refine And.intro (Or.inr rfl) ?_ | refine And.intro (Nat.le_of_ble_eq_true rfl) ?_ | refine And.intro (And.intro rfl rfl) ?_ | exact rfl
          cases hr
          repeat' first | refine And.intro rfl ?_ | refine And.intro (Or.inl rfl) ?_ | refine And.intro (Or.inr rfl) ?_ | refine And.intro (Nat.le_of_ble_eq_true rfl) ?_ | refine And.intro (And.intro rfl rfl) ?_ | exact rfl
        · rw [if_neg h2] at hr
          repeat' first | refine And.intro rfl ?_ | refine And.intro (Or.inl rfl) ?_ | refine And.intro (Or.inr rfl) ?_ | refine And.intro (Nat.le_of_ble_eq_true rfl) ?_ | refine And.intro (And.intro rfl rfl) ?_ | exact rfl
          refine And.intro (fun (h3 : ¬ ((l1 >>> (l4 &&& 31)) &&& 1) = 1) => ?_) (fun (h3 : ¬ (¬ ((l1 >>> (l4 &&& 31)) &&& 1) = 1)) => ?_)
          · rw [if_pos h3] at hr
            refine zs_131_48 ?_
            repeat' first | refine And.intro rfl ?_ | refine And.intro (Or.inl rfl) ?_ | refine And.intro (Or.inr rfl) ?_ | refine And.intro (Nat.le_of_ble_eq_true rfl) ?_ | refine And.intro (And.intro rfl rfl) ?_ | exact rfl
            exact zz_wk [true, true, true, true, true] rfl (ih5 _ _ _ _ _ _ _ hr)
          · rw [if_neg h3] at hr
            repeat' first | refine And.intro rfl ?_ | refine And.intro (Or.inl rfl) ?_ | refine And.intro (Or.inr rfl) ?_ | refine And.intro (Nat.le_of_ble_eq_true rfl) ?_ | refine And.intro (And.intro rfl rfl) ?_ | exact rfl
            have g1 : ¬ (l4 < 0 ∨ 12 ≤ l4.toNatClampNeg) := zz_g hr
            replace hr := zz_gt hr
            refine And.intro (g1) ?_
            repeat' first | refine And.intro rfl ?_ | refine And.intro (Or.inl rfl) ?_ | refine And.intro (Or.inr rfl) ?_ | refine And.intro (Nat.le_of_ble_eq_true rfl) ?_ | refine And.intro (And.intro rfl rfl) ?_ | exact rfl
            refine Exists.intro _ (Exists.intro _ (And.intro (zr_factOf F I J d (I 47 l4.toNatClampNeg)) ?_))
            repeat' first | refine And.intro rfl ?_ | refine And.intro (Or.inl rfl) ?_ | refine And.intro (Or.inr rfl) ?_ | refine And.intro (Nat.le_of_ble_eq_true rfl) ?_ | refine And.intro (And.intro rfl rfl) ?_ | exact rfl
            refine zs_131_48 ?_
            repeat' first | refine And.intro rfl ?_ | refine And.intro (Or.inl rfl) ?_ | refine And.intro (Or.inr rfl) ?_ | refine And.intro (Nat.le_of_ble_eq_true rfl) ?_ | refine And.intro (And.intro rfl rfl) ?_ | exact rfl
            exact zz_wk [true, true, true, true, true] rfl (ih5 _ _ _ _ _ _ _ hr)
theorem zr_X10_toldBy (F : zz_F) (I : Nat → Nat → Int32) (J : Nat → Nat → Int64) (d N : Nat) (l1 : Int32) (l2 : Int32) (r : Int32 × (Nat → Nat → Int32) × (Nat → Nat → Int64)) (h : zf_X10_toldBy N l1 l2 I J = some r) : zz_run (d+2) 131 0 [some (.ref 46), some (.int (l1)), some (.int (l2)), none, none] [] (zz_S F I J) (some (.int (r.1))) (zz_S F (I) (J)) := (zq_X10_toldBy F d N N).1 l1 l2 0 0 I J r h
def zb_X11_sign_0 (N : Nat) (rec : Nat → Int32 → Int32 → (Nat → Nat → Int32) → (Nat → Nat → Int64) → Option (Int32 × (Nat → Nat → Int32) × (Nat → Nat → Int64))) (l1 : Int32) (l2 : Int32) (I : Nat → Nat → Int32) (J : Nat → Nat → Int64) : Option (Int32 × (Nat → Nat → Int32) × (Nat → Nat → Int64)) := if ((I 2 1) + 4) ≤ 80 then (rec 16 l1 24 I J) else (some ((-1), I, J))
def zb_X11_sign_16 (N : Nat) (rec : Nat → Int32 → Int32 → (Nat → Nat → Int32) → (Nat → Nat → Int64) → Option (Int32 × (Nat → Nat → Int32) × (Nat → Nat → Int64))) (l1 : Int32) (l2 : Int32) (I : Nat → Nat → Int32) (J : Nat → Nat → Int64) : Option (Int32 × (Nat → Nat → Int32) × (Nat → Nat → Int64)) := if l2 < 0 then (some (I 2 1, I, J)) else (rec 16 l1 (l2 + (-8)) (zw_X11_addSign I (((l1.toUInt32 >>> (l2.toUInt32 &&& Int32.toUInt32 31)).toInt32) &&& 255)) J)
def zl_X11_sign (N : Nat) : Nat → Nat → Int32 → Int32 → (Nat → Nat → Int32) → (Nat → Nat → Int64) → Option (Int32 × (Nat → Nat → Int32) × (Nat → Nat → Int64))
  | 0 => fun _ _ _ _ _ => none
  | n + 1 => fun pc l1 l2 I J => if pc = 0 then zb_X11_sign_0 N (zl_X11_sign N n) l1 l2 I J else (if pc = 16 then zb_X11_sign_16 N (zl_X11_sign N n) l1 l2 I J else none)
def zf_X11_sign (N : Nat) (l1 : Int32) (I : Nat → Nat → Int32) (J : Nat → Nat → Int64) : Option (Int32 × (Nat → Nat → Int32) × (Nat → Nat → Int64)) := zl_X11_sign N N 0 l1 0 I J
theorem zq_X11_sign (F : zz_F) (d N : Nat) : ∀ n : Nat, (∀ (l1 : Int32) (l2 : Int32) (I : Nat → Nat → Int32) (J : Nat → Nat → Int64) (r : Int32 × (Nat → Nat → Int32) × (Nat → Nat → Int64)), zl_X11_sign N n 0 l1 l2 I J = some r → zz_run (d+1) 134 0 [some (.ref 2), some (.int (l1)), none] [] (zz_S F I J) (some (.int (r.1))) (zz_S F (r.2.1) (J))) ∧ (∀ (l1 : Int32) (l2 : Int32) (I : Nat → Nat → Int32) (J : Nat → Nat → Int64) (r : Int32 × (Nat → Nat → Int32) × (Nat → Nat → Int64)), zl_X11_sign N n 16 l1 l2 I J = some r → zz_run (d+1) 134 16 [some (.ref 2), some (.int (l1)), some (.int (l2))] [] (zz_S F I J) (some (.int (r.1))) (zz_S F (r.2.1) (J))) := by
  intro n
  induction n with
  | zero => exact ⟨fun _ _ _ _ _ h => zz_no h, fun _ _ _ _ _ h => zz_no h⟩
  | succ n ih =>
    obtain ⟨ih0, ih16⟩ := ih
    refine ⟨?_, ?_⟩
    · intro l1 l2 I J r hr
      replace hr : zb_X11_sign_0 N (zl_X11_sign N n) l1 l2 I J = some r := hr
      unfold zb_X11_sign_0 at hr
      refine zs_134_0 ?_
      repeat' first | refine And.intro rfl ?_ | refine And.intro (Or.inl rfl) ?_ | refine And.intro (Or.inr rfl) ?_ | refine And.intro (Nat.le_of_ble_eq_true rfl) ?_ | refine And.intro (And.intro rfl rfl) ?_ | exact rfl
      refine And.intro (fun (h1 : ((I 2 1) + 4) ≤ 80) => ?_) (fun (h1 : ¬ (((I 2 1) + 4) ≤ 80)) => ?_)
      · rw [if_pos h1] at hr
        refine zs_134_13 ?_
        repeat' first | refine And.intro rfl ?_ | refine And.intro (Or.inl rfl) ?_ | refine And.intro (Or.inr rfl) ?_ | refine And.intro (Nat.le_of_ble_eq_true rfl) ?_ | refine And.intro (And.intro rfl rfl) ?_ | exact rfl
        exact zz_wk [true, true, true] rfl (ih16 _ _ _ _ _ hr)
      · rw [if_neg h1] at hr
        repeat' first | refine And.intro rfl ?_ | refine And.intro (Or.inl rfl) ?_ | refine And.intro (Or.inr rfl) ?_ | refine And.intro (Nat.le_of_ble_eq_true rfl) ?_ | refine And.intro (And.intro rfl rfl) ?_ | exact rfl
        cases hr
        repeat' first | refine And.intro rfl ?_ | refine And.intro (Or.inl rfl) ?_ | refine And.intro (Or.inr rfl) ?_ | refine And.intro (Nat.le_of_ble_eq_true rfl) ?_ | refine And.intro (And.intro rfl rfl) ?_ | exact rfl
    · intro l1 l2 I J r hr
      replace hr : zb_X11_sign_16 N (zl_X11_sign N n) l1 l2 I J = some r := hr
      unfold zb_X11_sign_16 at hr
      refine zs_134_16 ?_
      repeat' first | refine And.intro rfl ?_ | refine And.intro (Or.inl rfl) ?_ | refine And.intro (Or.inr rfl) ?_ | refine And.intro (Nat.le_of_ble_eq_true rfl) ?_ | refine And.intro (And.intro rfl rfl) ?_ | exact rfl
      refine And.intro (fun (h2 : l2 < 0) => ?_) (fun (h2 : ¬ (l2 < 0)) => ?_)
      · rw [if_pos h2] at hr
        refine zs_134_37 ?_
        repeat' first | refine And.intro rfl ?_ | refine And.intro (Or.inl rfl) ?_ | refine And.intro (Or.inr rfl) ?_ | refine And.intro (Nat.le_of_ble_eq_true rfl) ?_ | refine And.intro (And.intro rfl rfl) ?_ | exact rfl
        cases hr
        repeat' first | refine And.intro rfl ?_ | refine And.intro (Or.inl rfl) ?_ | refine And.intro (Or.inr rfl) ?_ | refine And.intro (Nat.le_of_ble_eq_true rfl) ?_ | refine And.intro (And.intro rfl rfl) ?_ | exact rfl
      · rw [if_neg h2] at hr
        repeat' first | refine And.intro rfl ?_ | refine And.intro (Or.inl rfl) ?_ | refine And.intro (Or.inr rfl) ?_ | refine And.intro (Nat.le_of_ble_eq_true rfl) ?_ | refine And.intro (And.intro rfl rfl) ?_ | exact rfl
        refine Exists.intro _ (Exists.intro _ (And.intro (zr_X11_addSign F I J d (((l1.toUInt32 >>> (l2.toUInt32 &&& Int32.toUInt32 31)).toInt32) &&& 255)) ?_))
        repeat' first | refine And.intro rfl ?_ | refine And.intro (Or.inl rfl) ?_ | refine And.intro (Or.inr rfl) ?_ | refine And.intro (Nat.le_of_ble_eq_true rfl) ?_ | refine And.intro (And.intro rfl rfl) ?_ | exact rfl
        exact zz_wk [true, true, true] rfl (ih16 _ _ _ _ _ hr)
theorem zr_X11_sign (F : zz_F) (I : Nat → Nat → Int32) (J : Nat → Nat → Int64) (d N : Nat) (l1 : Int32) (r : Int32 × (Nat → Nat → Int32) × (Nat → Nat → Int64)) (h : zf_X11_sign N l1 I J = some r) : zz_run (d+1) 134 0 [some (.ref 2), some (.int (l1)), none] [] (zz_S F I J) (some (.int (r.1))) (zz_S F (r.2.1) (J)) := (zq_X11_sign F d N N).1 l1 0 I J r h
def zb_X11_clash_0 (N : Nat) (rec : Nat → Int32 → (Nat → Nat → Int32) → (Nat → Nat → Int64) → Option (Int32 × (Nat → Nat → Int32) × (Nat → Nat → Int64))) (l1 : Int32) (I : Nat → Nat → Int32) (J : Nat → Nat → Int64) : Option (Int32 × (Nat → Nat → Int32) × (Nat → Nat → Int64)) := (zf_X10_clashing N (I 8 2) I J).bind fun r1 => (zf_X10_lostIn N r1.1 I J).bind fun r2 => some (r1.1, zw_X11_tell_ I J ((zv_J6_bitCount r1.1).toInt64) r2.1.toInt64, zx_X11_tell_ I J ((zv_J6_bitCount r1.1).toInt64) r2.1.toInt64)
def zl_X11_clash (N : Nat) : Nat → Nat → Int32 → (Nat → Nat → Int32) → (Nat → Nat → Int64) → Option (Int32 × (Nat → Nat → Int32) × (Nat → Nat → Int64))
  | 0 => fun _ _ _ _ => none
  | n + 1 => fun pc l1 I J => if pc = 0 then zb_X11_clash_0 N (zl_X11_clash N n) l1 I J else none
def zf_X11_clash (N : Nat)  (I : Nat → Nat → Int32) (J : Nat → Nat → Int64) : Option (Int32 × (Nat → Nat → Int32) × (Nat → Nat → Int64)) := zl_X11_clash N N 0 0 I J
theorem zq_X11_clash (F : zz_F) (d N : Nat) : ∀ n : Nat, (∀ (l1 : Int32) (I : Nat → Nat → Int32) (J : Nat → Nat → Int64) (r : Int32 × (Nat → Nat → Int32) × (Nat → Nat → Int64)), zl_X11_clash N n 0 l1 I J = some r → zz_run (d+3) 156 0 [some (.ref 2), none] [] (zz_S F I J) (some (.int (r.1))) (zz_S F (r.2.1) (r.2.2))) := by
  intro n
  induction n with
  | zero => exact fun _ _ _ _ h => zz_no h
  | succ n ih =>
    have ih0 := ih
    skip
    · intro l1 I J r hr
      replace hr : zb_X11_clash_0 N (zl_X11_clash N n) l1 I J = some r := hr
      unfold zb_X11_clash_0 at hr
      refine zs_156_0 ?_
      repeat' first | refine And.intro rfl ?_ | refine And.intro (Or.inl rfl) ?_ | refine And.intro (Or.inr rfl) ?_ | refine And.intro (Nat.le_of_ble_eq_true rfl) ?_ | refine And.intro (And.intro rfl rfl) ?_ | exact rfl
      obtain ⟨r1, cr1, hr⟩ := Option.bind_eq_some_iff.mp hr
      refine Exists.intro _ (Exists.intro _ (And.intro (zr_X10_clashing F I J d N (I 8 2) r1 cr1) ?_))
      repeat' first | refine And.intro rfl ?_ | refine And.intro (Or.inl rfl) ?_ | refine And.intro (Or.inr rfl) ?_ | refine And.intro (Nat.le_of_ble_eq_true rfl) ?_ | refine And.intro (And.intro rfl rfl) ?_ | exact rfl
      refine Exists.intro _ (Exists.intro _ (And.intro (zr_J6_bitCount F I J (d+2) r1.1) ?_))
      repeat' first | refine And.intro rfl ?_ | refine And.intro (Or.inl rfl) ?_ | refine And.intro (Or.inr rfl) ?_ | refine And.intro (Nat.le_of_ble_eq_true rfl) ?_ | refine And.intro (And.intro rfl rfl) ?_ | exact rfl
      obtain ⟨r2, cr2, hr⟩ := Option.bind_eq_some_iff.mp hr
      refine Exists.intro _ (Exists.intro _ (And.intro (zr_X10_lostIn F I J (d+1) N r1.1 r2 cr2) ?_))
      repeat' first | refine And.intro rfl ?_ | refine And.intro (Or.inl rfl) ?_ | refine And.intro (Or.inr rfl) ?_ | refine And.intro (Nat.le_of_ble_eq_true rfl) ?_ | refine And.intro (And.intro rfl rfl) ?_ | exact rfl
      refine Exists.intro _ (Exists.intro _ (And.intro (zr_X11_tell_ F I J d ((zv_J6_bitCount r1.1).toInt64) r2.1.toInt64) ?_))
      repeat' first | refine And.intro rfl ?_ | refine And.intro (Or.inl rfl) ?_ | refine And.intro (Or.inr rfl) ?_ | refine And.intro (Nat.le_of_ble_eq_true rfl) ?_ | refine And.intro (And.intro rfl rfl) ?_ | exact rfl
      cases hr
      repeat' first | refine And.intro rfl ?_ | refine And.intro (Or.inl rfl) ?_ | refine And.intro (Or.inr rfl) ?_ | refine And.intro (Nat.le_of_ble_eq_true rfl) ?_ | refine And.intro (And.intro rfl rfl) ?_ | exact rfl
theorem zr_X11_clash (F : zz_F) (I : Nat → Nat → Int32) (J : Nat → Nat → Int64) (d N : Nat)  (r : Int32 × (Nat → Nat → Int32) × (Nat → Nat → Int64)) (h : zf_X11_clash N  I J = some r) : zz_run (d+3) 156 0 [some (.ref 2), none] [] (zz_S F I J) (some (.int (r.1))) (zz_S F (r.2.1) (r.2.2)) := (zq_X11_clash F d N N) 0 I J r h
def zb_X11_mend_0 (N : Nat) (rec : Nat → Int32 → Int32 → Int32 → (Nat → Nat → Int32) → (Nat → Nat → Int64) → Option (Int32 × (Nat → Nat → Int32) × (Nat → Nat → Int64))) (l1 : Int32) (l2 : Int32) (l3 : Int32) (I : Nat → Nat → Int32) (J : Nat → Nat → Int64) : Option (Int32 × (Nat → Nat → Int32) × (Nat → Nat → Int64)) := (zf_X10_clashing N (I 8 2) I J).bind fun r1 => (zf_X10_factsNeeded N (r1.1 &&& (zv_X9_scenesOf I 0)) I J).bind fun r2 => (zf_X10_factsNeeded N (r1.1 &&& (zv_X9_scenesOf I 1)) I J).bind fun r3 => some ((zv_J6_bitCount r2.1) + (zv_J6_bitCount r3.1), zw_X11_tell_ I J r2.1.toInt64 r3.1.toInt64, zx_X11_tell_ I J r2.1.toInt64 r3.1.toInt64)
def zl_X11_mend (N : Nat) : Nat → Nat → Int32 → Int32 → Int32 → (Nat → Nat → Int32) → (Nat → Nat → Int64) → Option (Int32 × (Nat → Nat → Int32) × (Nat → Nat → Int64))
  | 0 => fun _ _ _ _ _ _ => none
  | n + 1 => fun pc l1 l2 l3 I J => if pc = 0 then zb_X11_mend_0 N (zl_X11_mend N n) l1 l2 l3 I J else none
def zf_X11_mend (N : Nat)  (I : Nat → Nat → Int32) (J : Nat → Nat → Int64) : Option (Int32 × (Nat → Nat → Int32) × (Nat → Nat → Int64)) := zl_X11_mend N N 0 0 0 0 I J
theorem zq_X11_mend (F : zz_F) (d N : Nat) : ∀ n : Nat, (∀ (l1 : Int32) (l2 : Int32) (l3 : Int32) (I : Nat → Nat → Int32) (J : Nat → Nat → Int64) (r : Int32 × (Nat → Nat → Int32) × (Nat → Nat → Int64)), zl_X11_mend N n 0 l1 l2 l3 I J = some r → zz_run (d+3) 157 0 [some (.ref 2), none, none, none] [] (zz_S F I J) (some (.int (r.1))) (zz_S F (r.2.1) (r.2.2))) := by
  intro n
  induction n with
  | zero => exact fun _ _ _ _ _ _ h => zz_no h
  | succ n ih =>
    have ih0 := ih
    skip
    · intro l1 l2 l3 I J r hr
      replace hr : zb_X11_mend_0 N (zl_X11_mend N n) l1 l2 l3 I J = some r := hr
      unfold zb_X11_mend_0 at hr
      refine zs_157_0 ?_
      repeat' first | refine And.intro rfl ?_ | refine And.intro (Or.inl rfl) ?_ | refine And.intro (Or.inr rfl) ?_ | refine And.intro (Nat.le_of_ble_eq_true rfl) ?_ | refine And.intro (And.intro rfl rfl) ?_ | exact rfl
      obtain ⟨r1, cr1, hr⟩ := Option.bind_eq_some_iff.mp hr
      refine Exists.intro _ (Exists.intro _ (And.intro (zr_X10_clashing F I J d N (I 8 2) r1 cr1) ?_))
      repeat' first | refine And.intro rfl ?_ | refine And.intro (Or.inl rfl) ?_ | refine And.intro (Or.inr rfl) ?_ | refine And.intro (Nat.le_of_ble_eq_true rfl) ?_ | refine And.intro (And.intro rfl rfl) ?_ | exact rfl
      refine Exists.intro _ (Exists.intro _ (And.intro (zr_X9_scenesOf F I J (d+2) 0) ?_))
      repeat' first | refine And.intro rfl ?_ | refine And.intro (Or.inl rfl) ?_ | refine And.intro (Or.inr rfl) ?_ | refine And.intro (Nat.le_of_ble_eq_true rfl) ?_ | refine And.intro (And.intro rfl rfl) ?_ | exact rfl
      obtain ⟨r2, cr2, hr⟩ := Option.bind_eq_some_iff.mp hr
      refine Exists.intro _ (Exists.intro _ (And.intro (zr_X10_factsNeeded F I J (d+1) N (r1.1 &&& (zv_X9_scenesOf I 0)) r2 cr2) ?_))
      repeat' first | refine And.intro rfl ?_ | refine And.intro (Or.inl rfl) ?_ | refine And.intro (Or.inr rfl) ?_ | refine And.intro (Nat.le_of_ble_eq_true rfl) ?_ | refine And.intro (And.intro rfl rfl) ?_ | exact rfl
      refine Exists.intro _ (Exists.intro _ (And.intro (zr_X9_scenesOf F I J (d+2) 1) ?_))
      repeat' first | refine And.intro rfl ?_ | refine And.intro (Or.inl rfl) ?_ | refine And.intro (Or.inr rfl) ?_ | refine And.intro (Nat.le_of_ble_eq_true rfl) ?_ | refine And.intro (And.intro rfl rfl) ?_ | exact rfl
      obtain ⟨r3, cr3, hr⟩ := Option.bind_eq_some_iff.mp hr
      refine Exists.intro _ (Exists.intro _ (And.intro (zr_X10_factsNeeded F I J (d+1) N (r1.1 &&& (zv_X9_scenesOf I 1)) r3 cr3) ?_))
      repeat' first | refine And.intro rfl ?_ | refine And.intro (Or.inl rfl) ?_ | refine And.intro (Or.inr rfl) ?_ | refine And.intro (Nat.le_of_ble_eq_true rfl) ?_ | refine And.intro (And.intro rfl rfl) ?_ | exact rfl
      refine Exists.intro _ (Exists.intro _ (And.intro (zr_X11_tell_ F I J d r2.1.toInt64 r3.1.toInt64) ?_))
      repeat' first | refine And.intro rfl ?_ | refine And.intro (Or.inl rfl) ?_ | refine And.intro (Or.inr rfl) ?_ | refine And.intro (Nat.le_of_ble_eq_true rfl) ?_ | refine And.intro (And.intro rfl rfl) ?_ | exact rfl
      refine Exists.intro _ (Exists.intro _ (And.intro (zr_J6_bitCount F (zw_X11_tell_ I J r2.1.toInt64 r3.1.toInt64) (zx_X11_tell_ I J r2.1.toInt64 r3.1.toInt64) (d+2) r2.1) ?_))
      repeat' first | refine And.intro rfl ?_ | refine And.intro (Or.inl rfl) ?_ | refine And.intro (Or.inr rfl) ?_ | refine And.intro (Nat.le_of_ble_eq_true rfl) ?_ | refine And.intro (And.intro rfl rfl) ?_ | exact rfl
      refine Exists.intro _ (Exists.intro _ (And.intro (zr_J6_bitCount F (zw_X11_tell_ I J r2.1.toInt64 r3.1.toInt64) (zx_X11_tell_ I J r2.1.toInt64 r3.1.toInt64) (d+2) r3.1) ?_))
      repeat' first | refine And.intro rfl ?_ | refine And.intro (Or.inl rfl) ?_ | refine And.intro (Or.inr rfl) ?_ | refine And.intro (Nat.le_of_ble_eq_true rfl) ?_ | refine And.intro (And.intro rfl rfl) ?_ | exact rfl
      cases hr
      repeat' first | refine And.intro rfl ?_ | refine And.intro (Or.inl rfl) ?_ | refine And.intro (Or.inr rfl) ?_ | refine And.intro (Nat.le_of_ble_eq_true rfl) ?_ | refine And.intro (And.intro rfl rfl) ?_ | exact rfl
theorem zr_X11_mend (F : zz_F) (I : Nat → Nat → Int32) (J : Nat → Nat → Int64) (d N : Nat)  (r : Int32 × (Nat → Nat → Int32) × (Nat → Nat → Int64)) (h : zf_X11_mend N  I J = some r) : zz_run (d+3) 157 0 [some (.ref 2), none, none, none] [] (zz_S F I J) (some (.int (r.1))) (zz_S F (r.2.1) (r.2.2)) := (zq_X11_mend F d N N) 0 0 0 I J r h
def zb_X11_spare_0 (N : Nat) (rec : Nat → Int32 → (Nat → Nat → Int32) → (Nat → Nat → Int64) → Option (Int32 × (Nat → Nat → Int32) × (Nat → Nat → Int64))) (l1 : Int32) (I : Nat → Nat → Int32) (J : Nat → Nat → Int64) : Option (Int32 × (Nat → Nat → Int32) × (Nat → Nat → Int64)) := (zf_X10_sparable N  I J).bind fun r1 => some (r1.1, zw_X11_tell I J ((zv_J6_bitCount r1.1).toInt64), zx_X11_tell I J ((zv_J6_bitCount r1.1).toInt64))
def zl_X11_spare (N : Nat) : Nat → Nat → Int32 → (Nat → Nat → Int32) → (Nat → Nat → Int64) → Option (Int32 × (Nat → Nat → Int32) × (Nat → Nat → Int64))
  | 0 => fun _ _ _ _ => none
  | n + 1 => fun pc l1 I J => if pc = 0 then zb_X11_spare_0 N (zl_X11_spare N n) l1 I J else none
def zf_X11_spare (N : Nat)  (I : Nat → Nat → Int32) (J : Nat → Nat → Int64) : Option (Int32 × (Nat → Nat → Int32) × (Nat → Nat → Int64)) := zl_X11_spare N N 0 0 I J
theorem zq_X11_spare (F : zz_F) (d N : Nat) : ∀ n : Nat, (∀ (l1 : Int32) (I : Nat → Nat → Int32) (J : Nat → Nat → Int64) (r : Int32 × (Nat → Nat → Int32) × (Nat → Nat → Int64)), zl_X11_spare N n 0 l1 I J = some r → zz_run (d+4) 158 0 [some (.ref 2), none] [] (zz_S F I J) (some (.int (r.1))) (zz_S F (r.2.1) (r.2.2))) := by
  intro n
  induction n with
  | zero => exact fun _ _ _ _ h => zz_no h
  | succ n ih =>
    have ih0 := ih
    skip
    · intro l1 I J r hr
      replace hr : zb_X11_spare_0 N (zl_X11_spare N n) l1 I J = some r := hr
      unfold zb_X11_spare_0 at hr
      refine zs_158_0 ?_
      repeat' first | refine And.intro rfl ?_ | refine And.intro (Or.inl rfl) ?_ | refine And.intro (Or.inr rfl) ?_ | refine And.intro (Nat.le_of_ble_eq_true rfl) ?_ | refine And.intro (And.intro rfl rfl) ?_ | exact rfl
      obtain ⟨r1, cr1, hr⟩ := Option.bind_eq_some_iff.mp hr
      refine Exists.intro _ (Exists.intro _ (And.intro (zr_X10_sparable F I J d N  r1 cr1) ?_))
      repeat' first | refine And.intro rfl ?_ | refine And.intro (Or.inl rfl) ?_ | refine And.intro (Or.inr rfl) ?_ | refine And.intro (Nat.le_of_ble_eq_true rfl) ?_ | refine And.intro (And.intro rfl rfl) ?_ | exact rfl
      refine Exists.intro _ (Exists.intro _ (And.intro (zr_J6_bitCount F I J (d+3) r1.1) ?_))
      repeat' first | refine And.intro rfl ?_ | refine And.intro (Or.inl rfl) ?_ | refine And.intro (Or.inr rfl) ?_ | refine And.intro (Nat.le_of_ble_eq_true rfl) ?_ | refine And.intro (And.intro rfl rfl) ?_ | exact rfl
      refine Exists.intro _ (Exists.intro _ (And.intro (zr_X11_tell F I J (d+2) ((zv_J6_bitCount r1.1).toInt64)) ?_))
      repeat' first | refine And.intro rfl ?_ | refine And.intro (Or.inl rfl) ?_ | refine And.intro (Or.inr rfl) ?_ | refine And.intro (Nat.le_of_ble_eq_true rfl) ?_ | refine And.intro (And.intro rfl rfl) ?_ | exact rfl
      cases hr
      repeat' first | refine And.intro rfl ?_ | refine And.intro (Or.inl rfl) ?_ | refine And.intro (Or.inr rfl) ?_ | refine And.intro (Nat.le_of_ble_eq_true rfl) ?_ | refine And.intro (And.intro rfl rfl) ?_ | exact rfl
theorem zr_X11_spare (F : zz_F) (I : Nat → Nat → Int32) (J : Nat → Nat → Int64) (d N : Nat)  (r : Int32 × (Nat → Nat → Int32) × (Nat → Nat → Int64)) (h : zf_X11_spare N  I J = some r) : zz_run (d+4) 158 0 [some (.ref 2), none] [] (zz_S F I J) (some (.int (r.1))) (zz_S F (r.2.1) (r.2.2)) := (zq_X11_spare F d N N) 0 I J r h
