/-! printed by wip/whole/loop2.py -/
def zb_X6_push__8_0 (N : Nat) (rec : Nat → (Nat → Nat → Int32) → (Nat → Nat → Int64) → Option (Int32 × (Nat → Nat → Int32) × (Nat → Nat → Int64)))  (I : Nat → Nat → Int32) (J : Nat → Nat → Int64) : Option (Int32 × (Nat → Nat → Int32) × (Nat → Nat → Int64)) := if (I 9 4) < 0 then (some (0, I, J)) else (if 12 ≤ (I 9 4) then (some (0, I, J)) else (if zz_XR 0 none 0 10 ((I 9 4).toNatClampNeg) = some ((zz_XR 0 none 0 10 ((I 9 4).toNatClampNeg)).getD 0) then (if 14 ≤ ((zz_XR 0 none 0 10 ((I 9 4).toNatClampNeg)).getD 0) ∧ ((zz_XR 0 none 0 10 ((I 9 4).toNatClampNeg)).getD 0) < 28 then (if 12 ≤ (((zz_cpn I ((zz_XR 0 none 0 10 ((I 9 4).toNatClampNeg)).getD 0) 8) 9 4) + 1) then (some (0, zz_u (zz_u (zz_cpn I ((zz_XR 0 none 0 10 ((I 9 4).toNatClampNeg)).getD 0) 8) 9 4 0) 9 5 (zz_min 12 (((zz_cpn I ((zz_XR 0 none 0 10 ((I 9 4).toNatClampNeg)).getD 0) 8) 9 5) + 1)), J)) else (some (0, zz_u (zz_u (zz_cpn I ((zz_XR 0 none 0 10 ((I 9 4).toNatClampNeg)).getD 0) 8) 9 4 (((zz_cpn I ((zz_XR 0 none 0 10 ((I 9 4).toNatClampNeg)).getD 0) 8) 9 4) + 1)) 9 5 (zz_min 12 (((zz_cpn I ((zz_XR 0 none 0 10 ((I 9 4).toNatClampNeg)).getD 0) 8) 9 5) + 1)), J))) else none) else none))
def zl_X6_push__8 (N : Nat) : Nat → Nat → (Nat → Nat → Int32) → (Nat → Nat → Int64) → Option (Int32 × (Nat → Nat → Int32) × (Nat → Nat → Int64))
  | 0 => fun _ _ _ => none
  | n + 1 => fun pc  I J => if pc = 0 then zb_X6_push__8_0 N (zl_X6_push__8 N n)  I J else none
theorem ze_X6_push__8_0 (N : Nat) (n : Nat)  (I : Nat → Nat → Int32) (J : Nat → Nat → Int64) : zl_X6_push__8 N (n+1) 0  I J = zb_X6_push__8_0 N (zl_X6_push__8 N n)  I J := by
  show (if 0 = 0 then zb_X6_push__8_0 N (zl_X6_push__8 N n)  I J else none) = _
  rw [if_pos rfl]
def zf_X6_push__8 (N : Nat)  (I : Nat → Nat → Int32) (J : Nat → Nat → Int64) : Option (Int32 × (Nat → Nat → Int32) × (Nat → Nat → Int64)) := zl_X6_push__8 N N 0  I J
theorem zq_X6_push__8 (F : zz_F) (d N : Nat) : ∀ n : Nat, (∀  (I : Nat → Nat → Int32) (J : Nat → Nat → Int64) (r : Int32 × (Nat → Nat → Int32) × (Nat → Nat → Int64)), zl_X6_push__8 N n 0  I J = some r → zz_run (d+1) 86 0 [some (.ref 9), some (.ref 8)] [] (zz_S F I J) none (zz_S F (r.2.1) J)) := by
  intro n
  induction n with
  | zero => exact fun _ _ _ h => zz_no h
  | succ n ih =>
    have ih0 := ih
    skip
    · intro  I J r hr
      rw [ze_X6_push__8_0] at hr
      unfold zb_X6_push__8_0 at hr
      refine zs_86_0 ?_
      refine And.intro (rfl) (And.intro (fun (h1 : (I 9 4) < 0) => ?_) (fun (h1 : ¬ ((I 9 4) < 0)) => ?_))
      · rw [if_pos h1] at hr
        show zz_run _ 86 69 [some (.ref 9), some (.ref 8)] [] (zz_S F I J) _ _
        refine zs_86_69 ?_
        replace hr := Option.some.inj hr
        subst hr
        exact And.intro rfl (And.intro rfl rfl)
      · rw [if_neg h1] at hr
        refine And.intro (rfl) (And.intro (fun (h2 : 12 ≤ (I 9 4)) => ?_) (fun (h2 : ¬ (12 ≤ (I 9 4))) => ?_))
        · rw [if_pos h2] at hr
          show zz_run _ 86 69 [some (.ref 9), some (.ref 8)] [] (zz_S F I J) _ _
          refine zs_86_69 ?_
          replace hr := Option.some.inj hr
          subst hr
          exact And.intro rfl (And.intro rfl rfl)
        · rw [if_neg h2] at hr
          refine And.intro (rfl) (And.intro (rfl) (And.intro (rfl) (And.intro (zz_vin (n := 12) h1 h2 (Nat.le_of_ble_eq_true rfl)) ?_)))
          have g1 : zz_XR 0 none 0 10 ((I 9 4).toNatClampNeg) = some ((zz_XR 0 none 0 10 ((I 9 4).toNatClampNeg)).getD 0) := zz_g hr
          replace hr := zz_gt hr
          refine zz_rvs g1 ?_
          have g2 : 14 ≤ ((zz_XR 0 none 0 10 ((I 9 4).toNatClampNeg)).getD 0) ∧ ((zz_XR 0 none 0 10 ((I 9 4).toNatClampNeg)).getD 0) < 28 := zz_g hr
          replace hr := zz_gt hr
          refine And.intro ((zz_rK _ g2)) (And.intro (Nat.le_of_ble_eq_true rfl) (And.intro (Nat.le_of_ble_eq_true rfl) (And.intro (Nat.le_of_ble_eq_true rfl) ?_)))
          refine Exists.intro _ (Exists.intro _ (And.intro (zr_copyFrom F I J d ((zz_XR 0 none 0 10 ((I 9 4).toNatClampNeg)).getD 0) 8 (zz_rK _ g2) rfl) ?_))
          refine And.intro (rfl) (And.intro (fun (h3 : 12 ≤ (((zz_cpn I ((zz_XR 0 none 0 10 ((I 9 4).toNatClampNeg)).getD 0) 8) 9 4) + 1)) => ?_) (fun (h3 : ¬ (12 ≤ (((zz_cpn I ((zz_XR 0 none 0 10 ((I 9 4).toNatClampNeg)).getD 0) 8) 9 4) + 1))) => ?_))
          · rw [if_pos h3] at hr
            show zz_run _ 86 50 [some (.ref 9), some (.ref 8)] [.ref 9] (zz_S F (zz_cpn I ((zz_XR 0 none 0 10 ((I 9 4).toNatClampNeg)).getD 0) 8) J) _ _
            refine zs_86_50 ?_
            show zz_run _ 86 51 [some (.ref 9), some (.ref 8)] [.int 0, .ref 9] (zz_S F (zz_cpn I ((zz_XR 0 none 0 10 ((I 9 4).toNatClampNeg)).getD 0) 8) J) _ _
            refine zs_86_51 ?_
            refine And.intro (rfl) (And.intro (rfl) (And.intro (And.intro rfl rfl) (And.intro (rfl) (And.intro (Nat.le_of_ble_eq_true rfl) (And.intro (Nat.le_of_ble_eq_true rfl) ?_)))))
            refine And.intro (Nat.le_of_ble_eq_true rfl) ?_
            refine Exists.intro _ (Exists.intro _ (And.intro (zr_min F (zz_u (zz_cpn I ((zz_XR 0 none 0 10 ((I 9 4).toNatClampNeg)).getD 0) 8) 9 4 0) J d 12 (((zz_cpn I ((zz_XR 0 none 0 10 ((I 9 4).toNatClampNeg)).getD 0) 8) 9 5) + 1)) ?_))
            refine And.intro (rfl) (And.intro (rfl) (And.intro (And.intro rfl rfl) ?_))
            show zz_run _ 86 69 [some (.ref 9), some (.ref 8)] [] (zz_S F (zz_u (zz_u (zz_cpn I ((zz_XR 0 none 0 10 ((I 9 4).toNatClampNeg)).getD 0) 8) 9 4 0) 9 5 (zz_min 12 (((zz_cpn I ((zz_XR 0 none 0 10 ((I 9 4).toNatClampNeg)).getD 0) 8) 9 5) + 1))) J) _ _
            refine zs_86_69 ?_
            replace hr := Option.some.inj hr
            subst hr
            exact And.intro rfl (And.intro rfl rfl)
          · rw [if_neg h3] at hr
            refine And.intro (rfl) ?_
            show zz_run _ 86 51 [some (.ref 9), some (.ref 8)] [.int (((zz_cpn I ((zz_XR 0 none 0 10 ((I 9 4).toNatClampNeg)).getD 0) 8) 9 4) + 1), .ref 9] (zz_S F (zz_cpn I ((zz_XR 0 none 0 10 ((I 9 4).toNatClampNeg)).getD 0) 8) J) _ _
            refine zs_86_51 ?_
            refine And.intro (rfl) (And.intro (rfl) (And.intro (And.intro rfl rfl) (And.intro (rfl) (And.intro (Nat.le_of_ble_eq_true rfl) (And.intro (Nat.le_of_ble_eq_true rfl) ?_)))))
            refine And.intro (Nat.le_of_ble_eq_true rfl) ?_
            refine Exists.intro _ (Exists.intro _ (And.intro (zr_min F (zz_u (zz_cpn I ((zz_XR 0 none 0 10 ((I 9 4).toNatClampNeg)).getD 0) 8) 9 4 (((zz_cpn I ((zz_XR 0 none 0 10 ((I 9 4).toNatClampNeg)).getD 0) 8) 9 4) + 1)) J d 12 (((zz_cpn I ((zz_XR 0 none 0 10 ((I 9 4).toNatClampNeg)).getD 0) 8) 9 5) + 1)) ?_))
            refine And.intro (rfl) (And.intro (rfl) (And.intro (And.intro rfl rfl) ?_))
            show zz_run _ 86 69 [some (.ref 9), some (.ref 8)] [] (zz_S F (zz_u (zz_u (zz_cpn I ((zz_XR 0 none 0 10 ((I 9 4).toNatClampNeg)).getD 0) 8) 9 4 (((zz_cpn I ((zz_XR 0 none 0 10 ((I 9 4).toNatClampNeg)).getD 0) 8) 9 4) + 1)) 9 5 (zz_min 12 (((zz_cpn I ((zz_XR 0 none 0 10 ((I 9 4).toNatClampNeg)).getD 0) 8) 9 5) + 1))) J) _ _
            refine zs_86_69 ?_
            replace hr := Option.some.inj hr
            subst hr
            exact And.intro rfl (And.intro rfl rfl)
theorem zr_X6_push__8 (F : zz_F) (I : Nat → Nat → Int32) (J : Nat → Nat → Int64) (d N : Nat)  (r : Int32 × (Nat → Nat → Int32) × (Nat → Nat → Int64)) (h : zf_X6_push__8 N  I J = some r) : zz_run (d+1) 86 0 [some (.ref 9), some (.ref 8)] [] (zz_S F I J) none (zz_S F (r.2.1) J) := (zq_X6_push__8 F d N N)  I J r h
def zb_X6_push__13_0 (N : Nat) (rec : Nat → (Nat → Nat → Int32) → (Nat → Nat → Int64) → Option (Int32 × (Nat → Nat → Int32) × (Nat → Nat → Int64)))  (I : Nat → Nat → Int32) (J : Nat → Nat → Int64) : Option (Int32 × (Nat → Nat → Int32) × (Nat → Nat → Int64)) := if (I 9 4) < 0 then (some (0, I, J)) else (if 12 ≤ (I 9 4) then (some (0, I, J)) else (if zz_XR 0 none 0 10 ((I 9 4).toNatClampNeg) = some ((zz_XR 0 none 0 10 ((I 9 4).toNatClampNeg)).getD 0) then (if 14 ≤ ((zz_XR 0 none 0 10 ((I 9 4).toNatClampNeg)).getD 0) ∧ ((zz_XR 0 none 0 10 ((I 9 4).toNatClampNeg)).getD 0) < 28 then (if 12 ≤ (((zz_cpn I ((zz_XR 0 none 0 10 ((I 9 4).toNatClampNeg)).getD 0) 13) 9 4) + 1) then (some (0, zz_u (zz_u (zz_cpn I ((zz_XR 0 none 0 10 ((I 9 4).toNatClampNeg)).getD 0) 13) 9 4 0) 9 5 (zz_min 12 (((zz_cpn I ((zz_XR 0 none 0 10 ((I 9 4).toNatClampNeg)).getD 0) 13) 9 5) + 1)), J)) else (some (0, zz_u (zz_u (zz_cpn I ((zz_XR 0 none 0 10 ((I 9 4).toNatClampNeg)).getD 0) 13) 9 4 (((zz_cpn I ((zz_XR 0 none 0 10 ((I 9 4).toNatClampNeg)).getD 0) 13) 9 4) + 1)) 9 5 (zz_min 12 (((zz_cpn I ((zz_XR 0 none 0 10 ((I 9 4).toNatClampNeg)).getD 0) 13) 9 5) + 1)), J))) else none) else none))
def zl_X6_push__13 (N : Nat) : Nat → Nat → (Nat → Nat → Int32) → (Nat → Nat → Int64) → Option (Int32 × (Nat → Nat → Int32) × (Nat → Nat → Int64))
  | 0 => fun _ _ _ => none
  | n + 1 => fun pc  I J => if pc = 0 then zb_X6_push__13_0 N (zl_X6_push__13 N n)  I J else none
theorem ze_X6_push__13_0 (N : Nat) (n : Nat)  (I : Nat → Nat → Int32) (J : Nat → Nat → Int64) : zl_X6_push__13 N (n+1) 0  I J = zb_X6_push__13_0 N (zl_X6_push__13 N n)  I J := by
  show (if 0 = 0 then zb_X6_push__13_0 N (zl_X6_push__13 N n)  I J else none) = _
  rw [if_pos rfl]
def zf_X6_push__13 (N : Nat)  (I : Nat → Nat → Int32) (J : Nat → Nat → Int64) : Option (Int32 × (Nat → Nat → Int32) × (Nat → Nat → Int64)) := zl_X6_push__13 N N 0  I J
theorem zq_X6_push__13 (F : zz_F) (d N : Nat) : ∀ n : Nat, (∀  (I : Nat → Nat → Int32) (J : Nat → Nat → Int64) (r : Int32 × (Nat → Nat → Int32) × (Nat → Nat → Int64)), zl_X6_push__13 N n 0  I J = some r → zz_run (d+1) 86 0 [some (.ref 9), some (.ref 13)] [] (zz_S F I J) none (zz_S F (r.2.1) J)) := by
  intro n
  induction n with
  | zero => exact fun _ _ _ h => zz_no h
  | succ n ih =>
    have ih0 := ih
    skip
    · intro  I J r hr
      rw [ze_X6_push__13_0] at hr
      unfold zb_X6_push__13_0 at hr
      refine zs_86_0 ?_
      refine And.intro (rfl) (And.intro (fun (h1 : (I 9 4) < 0) => ?_) (fun (h1 : ¬ ((I 9 4) < 0)) => ?_))
      · rw [if_pos h1] at hr
        show zz_run _ 86 69 [some (.ref 9), some (.ref 13)] [] (zz_S F I J) _ _
        refine zs_86_69 ?_
        replace hr := Option.some.inj hr
        subst hr
        exact And.intro rfl (And.intro rfl rfl)
      · rw [if_neg h1] at hr
        refine And.intro (rfl) (And.intro (fun (h2 : 12 ≤ (I 9 4)) => ?_) (fun (h2 : ¬ (12 ≤ (I 9 4))) => ?_))
        · rw [if_pos h2] at hr
          show zz_run _ 86 69 [some (.ref 9), some (.ref 13)] [] (zz_S F I J) _ _
          refine zs_86_69 ?_
          replace hr := Option.some.inj hr
          subst hr
          exact And.intro rfl (And.intro rfl rfl)
        · rw [if_neg h2] at hr
          refine And.intro (rfl) (And.intro (rfl) (And.intro (rfl) (And.intro (zz_vin (n := 12) h1 h2 (Nat.le_of_ble_eq_true rfl)) ?_)))
          have g1 : zz_XR 0 none 0 10 ((I 9 4).toNatClampNeg) = some ((zz_XR 0 none 0 10 ((I 9 4).toNatClampNeg)).getD 0) := zz_g hr
          replace hr := zz_gt hr
          refine zz_rvs g1 ?_
          have g2 : 14 ≤ ((zz_XR 0 none 0 10 ((I 9 4).toNatClampNeg)).getD 0) ∧ ((zz_XR 0 none 0 10 ((I 9 4).toNatClampNeg)).getD 0) < 28 := zz_g hr
          replace hr := zz_gt hr
          refine And.intro ((zz_rK _ g2)) (And.intro (Nat.le_of_ble_eq_true rfl) (And.intro (Nat.le_of_ble_eq_true rfl) (And.intro (Nat.le_of_ble_eq_true rfl) ?_)))
          refine Exists.intro _ (Exists.intro _ (And.intro (zr_copyFrom F I J d ((zz_XR 0 none 0 10 ((I 9 4).toNatClampNeg)).getD 0) 13 (zz_rK _ g2) rfl) ?_))
          refine And.intro (rfl) (And.intro (fun (h3 : 12 ≤ (((zz_cpn I ((zz_XR 0 none 0 10 ((I 9 4).toNatClampNeg)).getD 0) 13) 9 4) + 1)) => ?_) (fun (h3 : ¬ (12 ≤ (((zz_cpn I ((zz_XR 0 none 0 10 ((I 9 4).toNatClampNeg)).getD 0) 13) 9 4) + 1))) => ?_))
          · rw [if_pos h3] at hr
            show zz_run _ 86 50 [some (.ref 9), some (.ref 13)] [.ref 9] (zz_S F (zz_cpn I ((zz_XR 0 none 0 10 ((I 9 4).toNatClampNeg)).getD 0) 13) J) _ _
            refine zs_86_50 ?_
            show zz_run _ 86 51 [some (.ref 9), some (.ref 13)] [.int 0, .ref 9] (zz_S F (zz_cpn I ((zz_XR 0 none 0 10 ((I 9 4).toNatClampNeg)).getD 0) 13) J) _ _
            refine zs_86_51 ?_
            refine And.intro (rfl) (And.intro (rfl) (And.intro (And.intro rfl rfl) (And.intro (rfl) (And.intro (Nat.le_of_ble_eq_true rfl) (And.intro (Nat.le_of_ble_eq_true rfl) ?_)))))
            refine And.intro (Nat.le_of_ble_eq_true rfl) ?_
            refine Exists.intro _ (Exists.intro _ (And.intro (zr_min F (zz_u (zz_cpn I ((zz_XR 0 none 0 10 ((I 9 4).toNatClampNeg)).getD 0) 13) 9 4 0) J d 12 (((zz_cpn I ((zz_XR 0 none 0 10 ((I 9 4).toNatClampNeg)).getD 0) 13) 9 5) + 1)) ?_))
            refine And.intro (rfl) (And.intro (rfl) (And.intro (And.intro rfl rfl) ?_))
            show zz_run _ 86 69 [some (.ref 9), some (.ref 13)] [] (zz_S F (zz_u (zz_u (zz_cpn I ((zz_XR 0 none 0 10 ((I 9 4).toNatClampNeg)).getD 0) 13) 9 4 0) 9 5 (zz_min 12 (((zz_cpn I ((zz_XR 0 none 0 10 ((I 9 4).toNatClampNeg)).getD 0) 13) 9 5) + 1))) J) _ _
            refine zs_86_69 ?_
            replace hr := Option.some.inj hr
            subst hr
            exact And.intro rfl (And.intro rfl rfl)
          · rw [if_neg h3] at hr
            refine And.intro (rfl) ?_
            show zz_run _ 86 51 [some (.ref 9), some (.ref 13)] [.int (((zz_cpn I ((zz_XR 0 none 0 10 ((I 9 4).toNatClampNeg)).getD 0) 13) 9 4) + 1), .ref 9] (zz_S F (zz_cpn I ((zz_XR 0 none 0 10 ((I 9 4).toNatClampNeg)).getD 0) 13) J) _ _
            refine zs_86_51 ?_
            refine And.intro (rfl) (And.intro (rfl) (And.intro (And.intro rfl rfl) (And.intro (rfl) (And.intro (Nat.le_of_ble_eq_true rfl) (And.intro (Nat.le_of_ble_eq_true rfl) ?_)))))
            refine And.intro (Nat.le_of_ble_eq_true rfl) ?_
            refine Exists.intro _ (Exists.intro _ (And.intro (zr_min F (zz_u (zz_cpn I ((zz_XR 0 none 0 10 ((I 9 4).toNatClampNeg)).getD 0) 13) 9 4 (((zz_cpn I ((zz_XR 0 none 0 10 ((I 9 4).toNatClampNeg)).getD 0) 13) 9 4) + 1)) J d 12 (((zz_cpn I ((zz_XR 0 none 0 10 ((I 9 4).toNatClampNeg)).getD 0) 13) 9 5) + 1)) ?_))
            refine And.intro (rfl) (And.intro (rfl) (And.intro (And.intro rfl rfl) ?_))
            show zz_run _ 86 69 [some (.ref 9), some (.ref 13)] [] (zz_S F (zz_u (zz_u (zz_cpn I ((zz_XR 0 none 0 10 ((I 9 4).toNatClampNeg)).getD 0) 13) 9 4 (((zz_cpn I ((zz_XR 0 none 0 10 ((I 9 4).toNatClampNeg)).getD 0) 13) 9 4) + 1)) 9 5 (zz_min 12 (((zz_cpn I ((zz_XR 0 none 0 10 ((I 9 4).toNatClampNeg)).getD 0) 13) 9 5) + 1))) J) _ _
            refine zs_86_69 ?_
            replace hr := Option.some.inj hr
            subst hr
            exact And.intro rfl (And.intro rfl rfl)
theorem zr_X6_push__13 (F : zz_F) (I : Nat → Nat → Int32) (J : Nat → Nat → Int64) (d N : Nat)  (r : Int32 × (Nat → Nat → Int32) × (Nat → Nat → Int64)) (h : zf_X6_push__13 N  I J = some r) : zz_run (d+1) 86 0 [some (.ref 9), some (.ref 13)] [] (zz_S F I J) none (zz_S F (r.2.1) J) := (zq_X6_push__13 F d N N)  I J r h
def zb_X6_hold__8_0 (N : Nat) (rec : Nat → (Nat → Nat → Int32) → (Nat → Nat → Int64) → Option (Int32 × (Nat → Nat → Int32) × (Nat → Nat → Int64)))  (I : Nat → Nat → Int32) (J : Nat → Nat → Int64) : Option (Int32 × (Nat → Nat → Int32) × (Nat → Nat → Int64)) := some (0, zz_cpn I 13 8, J)
def zl_X6_hold__8 (N : Nat) : Nat → Nat → (Nat → Nat → Int32) → (Nat → Nat → Int64) → Option (Int32 × (Nat → Nat → Int32) × (Nat → Nat → Int64))
  | 0 => fun _ _ _ => none
  | n + 1 => fun pc  I J => if pc = 0 then zb_X6_hold__8_0 N (zl_X6_hold__8 N n)  I J else none
theorem ze_X6_hold__8_0 (N : Nat) (n : Nat)  (I : Nat → Nat → Int32) (J : Nat → Nat → Int64) : zl_X6_hold__8 N (n+1) 0  I J = zb_X6_hold__8_0 N (zl_X6_hold__8 N n)  I J := by
  show (if 0 = 0 then zb_X6_hold__8_0 N (zl_X6_hold__8 N n)  I J else none) = _
  rw [if_pos rfl]
def zf_X6_hold__8 (N : Nat)  (I : Nat → Nat → Int32) (J : Nat → Nat → Int64) : Option (Int32 × (Nat → Nat → Int32) × (Nat → Nat → Int64)) := zl_X6_hold__8 N N 0  I J
theorem zq_X6_hold__8 (F : zz_F) (d N : Nat) : ∀ n : Nat, (∀  (I : Nat → Nat → Int32) (J : Nat → Nat → Int64) (r : Int32 × (Nat → Nat → Int32) × (Nat → Nat → Int64)), zl_X6_hold__8 N n 0  I J = some r → zz_run (d+1) 87 0 [some (.ref 9), some (.ref 8)] [] (zz_S F I J) none (zz_S F (r.2.1) J)) := by
  intro n
  induction n with
  | zero => exact fun _ _ _ h => zz_no h
  | succ n ih =>
    have ih0 := ih
    skip
    · intro  I J r hr
      rw [ze_X6_hold__8_0] at hr
      unfold zb_X6_hold__8_0 at hr
      refine zs_87_0 ?_
      refine And.intro (rfl) (And.intro (rfl) (And.intro (Nat.le_of_ble_eq_true rfl) (And.intro (Nat.le_of_ble_eq_true rfl) (And.intro (Nat.le_of_ble_eq_true rfl) ?_))))
      refine Exists.intro _ (Exists.intro _ (And.intro (zr_copyFrom F I J d 13 8 rfl rfl) ?_))
      replace hr := Option.some.inj hr
      subst hr
      exact And.intro rfl (And.intro rfl rfl)
theorem zr_X6_hold__8 (F : zz_F) (I : Nat → Nat → Int32) (J : Nat → Nat → Int64) (d N : Nat)  (r : Int32 × (Nat → Nat → Int32) × (Nat → Nat → Int64)) (h : zf_X6_hold__8 N  I J = some r) : zz_run (d+1) 87 0 [some (.ref 9), some (.ref 8)] [] (zz_S F I J) none (zz_S F (r.2.1) J) := (zq_X6_hold__8 F d N N)  I J r h
def zb_X6_pushHeld_0 (N : Nat) (rec : Nat → (Nat → Nat → Int32) → (Nat → Nat → Int64) → Option (Int32 × (Nat → Nat → Int32) × (Nat → Nat → Int64)))  (I : Nat → Nat → Int32) (J : Nat → Nat → Int64) : Option (Int32 × (Nat → Nat → Int32) × (Nat → Nat → Int64)) := (zf_X6_push__13 N  I J).bind fun r1 => some (0, r1.2.1, J)
def zl_X6_pushHeld (N : Nat) : Nat → Nat → (Nat → Nat → Int32) → (Nat → Nat → Int64) → Option (Int32 × (Nat → Nat → Int32) × (Nat → Nat → Int64))
  | 0 => fun _ _ _ => none
  | n + 1 => fun pc  I J => if pc = 0 then zb_X6_pushHeld_0 N (zl_X6_pushHeld N n)  I J else none
theorem ze_X6_pushHeld_0 (N : Nat) (n : Nat)  (I : Nat → Nat → Int32) (J : Nat → Nat → Int64) : zl_X6_pushHeld N (n+1) 0  I J = zb_X6_pushHeld_0 N (zl_X6_pushHeld N n)  I J := by
  show (if 0 = 0 then zb_X6_pushHeld_0 N (zl_X6_pushHeld N n)  I J else none) = _
  rw [if_pos rfl]
def zf_X6_pushHeld (N : Nat)  (I : Nat → Nat → Int32) (J : Nat → Nat → Int64) : Option (Int32 × (Nat → Nat → Int32) × (Nat → Nat → Int64)) := zl_X6_pushHeld N N 0  I J
theorem zq_X6_pushHeld (F : zz_F) (d N : Nat) : ∀ n : Nat, (∀  (I : Nat → Nat → Int32) (J : Nat → Nat → Int64) (r : Int32 × (Nat → Nat → Int32) × (Nat → Nat → Int64)), zl_X6_pushHeld N n 0  I J = some r → zz_run (d+2) 88 0 [some (.ref 9)] [] (zz_S F I J) none (zz_S F (r.2.1) J)) := by
  intro n
  induction n with
  | zero => exact fun _ _ _ h => zz_no h
  | succ n ih =>
    have ih0 := ih
    skip
    · intro  I J r hr
      rw [ze_X6_pushHeld_0] at hr
      unfold zb_X6_pushHeld_0 at hr
      refine zs_88_0 ?_
      refine And.intro (rfl) (And.intro (rfl) (And.intro (Nat.le_of_ble_eq_true rfl) (And.intro (Nat.le_of_ble_eq_true rfl) (And.intro (Nat.le_of_ble_eq_true rfl) ?_))))
      obtain ⟨r1, cr1, hr⟩ := Option.bind_eq_some_iff.mp hr
      refine Exists.intro _ (Exists.intro _ (And.intro (zr_X6_push__13 F I J d N  r1 cr1) ?_))
      replace hr := Option.some.inj hr
      subst hr
      exact And.intro rfl (And.intro rfl rfl)
theorem zr_X6_pushHeld (F : zz_F) (I : Nat → Nat → Int32) (J : Nat → Nat → Int64) (d N : Nat)  (r : Int32 × (Nat → Nat → Int32) × (Nat → Nat → Int64)) (h : zf_X6_pushHeld N  I J = some r) : zz_run (d+2) 88 0 [some (.ref 9)] [] (zz_S F I J) none (zz_S F (r.2.1) J) := (zq_X6_pushHeld F d N N)  I J r h
def zb_X6_putHeldInto__8_0 (N : Nat) (rec : Nat → (Nat → Nat → Int32) → (Nat → Nat → Int64) → Option (Int32 × (Nat → Nat → Int32) × (Nat → Nat → Int64)))  (I : Nat → Nat → Int32) (J : Nat → Nat → Int64) : Option (Int32 × (Nat → Nat → Int32) × (Nat → Nat → Int64)) := some (0, zz_cpn I 8 13, J)
def zl_X6_putHeldInto__8 (N : Nat) : Nat → Nat → (Nat → Nat → Int32) → (Nat → Nat → Int64) → Option (Int32 × (Nat → Nat → Int32) × (Nat → Nat → Int64))
  | 0 => fun _ _ _ => none
  | n + 1 => fun pc  I J => if pc = 0 then zb_X6_putHeldInto__8_0 N (zl_X6_putHeldInto__8 N n)  I J else none
theorem ze_X6_putHeldInto__8_0 (N : Nat) (n : Nat)  (I : Nat → Nat → Int32) (J : Nat → Nat → Int64) : zl_X6_putHeldInto__8 N (n+1) 0  I J = zb_X6_putHeldInto__8_0 N (zl_X6_putHeldInto__8 N n)  I J := by
  show (if 0 = 0 then zb_X6_putHeldInto__8_0 N (zl_X6_putHeldInto__8 N n)  I J else none) = _
  rw [if_pos rfl]
def zf_X6_putHeldInto__8 (N : Nat)  (I : Nat → Nat → Int32) (J : Nat → Nat → Int64) : Option (Int32 × (Nat → Nat → Int32) × (Nat → Nat → Int64)) := zl_X6_putHeldInto__8 N N 0  I J
theorem zq_X6_putHeldInto__8 (F : zz_F) (d N : Nat) : ∀ n : Nat, (∀  (I : Nat → Nat → Int32) (J : Nat → Nat → Int64) (r : Int32 × (Nat → Nat → Int32) × (Nat → Nat → Int64)), zl_X6_putHeldInto__8 N n 0  I J = some r → zz_run (d+1) 89 0 [some (.ref 9), some (.ref 8)] [] (zz_S F I J) none (zz_S F (r.2.1) J)) := by
  intro n
  induction n with
  | zero => exact fun _ _ _ h => zz_no h
  | succ n ih =>
    have ih0 := ih
    skip
    · intro  I J r hr
      rw [ze_X6_putHeldInto__8_0] at hr
      unfold zb_X6_putHeldInto__8_0 at hr
      refine zs_89_0 ?_
      refine And.intro (rfl) (And.intro (rfl) (And.intro (Nat.le_of_ble_eq_true rfl) (And.intro (Nat.le_of_ble_eq_true rfl) (And.intro (Nat.le_of_ble_eq_true rfl) ?_))))
      refine Exists.intro _ (Exists.intro _ (And.intro (zr_copyFrom F I J d 8 13 rfl rfl) ?_))
      replace hr := Option.some.inj hr
      subst hr
      exact And.intro rfl (And.intro rfl rfl)
theorem zr_X6_putHeldInto__8 (F : zz_F) (I : Nat → Nat → Int32) (J : Nat → Nat → Int64) (d N : Nat)  (r : Int32 × (Nat → Nat → Int32) × (Nat → Nat → Int64)) (h : zf_X6_putHeldInto__8 N  I J = some r) : zz_run (d+1) 89 0 [some (.ref 9), some (.ref 8)] [] (zz_S F I J) none (zz_S F (r.2.1) J) := (zq_X6_putHeldInto__8 F d N N)  I J r h
def zb_X6_popInto__8_0 (N : Nat) (rec : Nat → (Nat → Nat → Int32) → (Nat → Nat → Int64) → Option (Int32 × (Nat → Nat → Int32) × (Nat → Nat → Int64)))  (I : Nat → Nat → Int32) (J : Nat → Nat → Int64) : Option (Int32 × (Nat → Nat → Int32) × (Nat → Nat → Int64)) := if ¬ (I 9 5) = 0 then (if (I 9 4) ≤ 0 then (if 12 ≤ (11 : Int32) then (some ((I 9 5) - 1, zz_u (zz_u I 9 4 11) 9 5 ((I 9 5) - 1), J)) else (if zz_XR 0 none 0 10 11 = some ((zz_XR 0 none 0 10 11).getD 0) then (if 14 ≤ ((zz_XR 0 none 0 10 11).getD 0) ∧ ((zz_XR 0 none 0 10 11).getD 0) < 28 then (some (((zz_cpn (zz_u I 9 4 11) 8 ((zz_XR 0 none 0 10 11).getD 0)) 9 5) - 1, zz_u (zz_cpn (zz_u I 9 4 11) 8 ((zz_XR 0 none 0 10 11).getD 0)) 9 5 (((zz_cpn (zz_u I 9 4 11) 8 ((zz_XR 0 none 0 10 11).getD 0)) 9 5) - 1), J)) else none) else none)) else (if 12 ≤ ((I 9 4) - 1) then (some ((I 9 5) - 1, zz_u (zz_u I 9 4 ((I 9 4) - 1)) 9 5 ((I 9 5) - 1), J)) else (if ¬ (((I 9 4) - 1) < 0 ∨ 12 ≤ ((I 9 4) - 1).toNatClampNeg) then (if zz_XR 0 none 0 10 (((I 9 4) - 1).toNatClampNeg) = some ((zz_XR 0 none 0 10 (((I 9 4) - 1).toNatClampNeg)).getD 0) then (if 14 ≤ ((zz_XR 0 none 0 10 (((I 9 4) - 1).toNatClampNeg)).getD 0) ∧ ((zz_XR 0 none 0 10 (((I 9 4) - 1).toNatClampNeg)).getD 0) < 28 then (some (((zz_cpn (zz_u I 9 4 ((I 9 4) - 1)) 8 ((zz_XR 0 none 0 10 (((I 9 4) - 1).toNatClampNeg)).getD 0)) 9 5) - 1, zz_u (zz_cpn (zz_u I 9 4 ((I 9 4) - 1)) 8 ((zz_XR 0 none 0 10 (((I 9 4) - 1).toNatClampNeg)).getD 0)) 9 5 (((zz_cpn (zz_u I 9 4 ((I 9 4) - 1)) 8 ((zz_XR 0 none 0 10 (((I 9 4) - 1).toNatClampNeg)).getD 0)) 9 5) - 1), J)) else none) else none) else none))) else (some ((-1), I, J))
def zl_X6_popInto__8 (N : Nat) : Nat → Nat → (Nat → Nat → Int32) → (Nat → Nat → Int64) → Option (Int32 × (Nat → Nat → Int32) × (Nat → Nat → Int64))
  | 0 => fun _ _ _ => none
  | n + 1 => fun pc  I J => if pc = 0 then zb_X6_popInto__8_0 N (zl_X6_popInto__8 N n)  I J else none
theorem ze_X6_popInto__8_0 (N : Nat) (n : Nat)  (I : Nat → Nat → Int32) (J : Nat → Nat → Int64) : zl_X6_popInto__8 N (n+1) 0  I J = zb_X6_popInto__8_0 N (zl_X6_popInto__8 N n)  I J := by
  show (if 0 = 0 then zb_X6_popInto__8_0 N (zl_X6_popInto__8 N n)  I J else none) = _
  rw [if_pos rfl]
def zf_X6_popInto__8 (N : Nat)  (I : Nat → Nat → Int32) (J : Nat → Nat → Int64) : Option (Int32 × (Nat → Nat → Int32) × (Nat → Nat → Int64)) := zl_X6_popInto__8 N N 0  I J
theorem zq_X6_popInto__8 (F : zz_F) (d N : Nat) : ∀ n : Nat, (∀  (I : Nat → Nat → Int32) (J : Nat → Nat → Int64) (r : Int32 × (Nat → Nat → Int32) × (Nat → Nat → Int64)), zl_X6_popInto__8 N n 0  I J = some r → zz_run (d+1) 90 0 [some (.ref 9), some (.ref 8)] [] (zz_S F I J) (some (.int r.1)) (zz_S F (r.2.1) J)) := by
  intro n
  induction n with
  | zero => exact fun _ _ _ h => zz_no h
  | succ n ih =>
    have ih0 := ih
    skip
    · intro  I J r hr
      rw [ze_X6_popInto__8_0] at hr
      unfold zb_X6_popInto__8_0 at hr
      refine zs_90_0 ?_
      refine And.intro (rfl) (And.intro (fun (h1 : ¬ (I 9 5) = 0) => ?_) (fun (h1 : ¬ (¬ (I 9 5) = 0)) => ?_))
      · rw [if_pos h1] at hr
        show zz_run _ 90 9 [some (.ref 9), some (.ref 8)] [] (zz_S F I J) _ _
        refine zs_90_9 ?_
        refine And.intro (rfl) (And.intro (fun (h2 : (I 9 4) ≤ 0) => ?_) (fun (h2 : ¬ ((I 9 4) ≤ 0)) => ?_))
        · rw [if_pos h2] at hr
          show zz_run _ 90 26 [some (.ref 9), some (.ref 8)] [.ref 9] (zz_S F I J) _ _
          refine zs_90_26 ?_
          show zz_run _ 90 28 [some (.ref 9), some (.ref 8)] [.int 11, .ref 9] (zz_S F I J) _ _
          refine zs_90_28 ?_
          refine And.intro (rfl) (And.intro (rfl) (And.intro (And.intro rfl rfl) (And.intro (rfl) (And.intro (fun (h3 : 12 ≤ (11 : Int32)) => ?_) (fun (h3 : ¬ (12 ≤ (11 : Int32))) => ?_)))))
          · rw [if_pos h3] at hr
            show zz_run _ 90 53 [some (.ref 9), some (.ref 8)] [] (zz_S F (zz_u I 9 4 11) J) _ _
            refine zs_90_53 ?_
            refine And.intro (rfl) (And.intro (rfl) (And.intro (rfl) (And.intro (rfl) (And.intro (And.intro rfl rfl) (And.intro (rfl) ?_)))))
            replace hr := Option.some.inj hr
            subst hr
            exact And.intro rfl (And.intro rfl rfl)
          · rw [if_neg h3] at hr
            refine And.intro (rfl) (And.intro (rfl) (And.intro (rfl) (And.intro (zz_vk (k := 11) rfl rfl) ?_)))
            have g1 : zz_XR 0 none 0 10 11 = some ((zz_XR 0 none 0 10 11).getD 0) := zz_g hr
            replace hr := zz_gt hr
            refine zz_rvs g1 ?_
            refine And.intro (rfl) (And.intro (Nat.le_of_ble_eq_true rfl) (And.intro (Nat.le_of_ble_eq_true rfl) (And.intro (Nat.le_of_ble_eq_true rfl) ?_)))
            have g2 : 14 ≤ ((zz_XR 0 none 0 10 11).getD 0) ∧ ((zz_XR 0 none 0 10 11).getD 0) < 28 := zz_g hr
            replace hr := zz_gt hr
            refine Exists.intro _ (Exists.intro _ (And.intro (zr_copyFrom F (zz_u I 9 4 11) J d 8 ((zz_XR 0 none 0 10 11).getD 0) rfl (zz_rK _ g2)) ?_))
            show zz_run _ 90 53 [some (.ref 9), some (.ref 8)] [] (zz_S F (zz_cpn (zz_u I 9 4 11) 8 ((zz_XR 0 none 0 10 11).getD 0)) J) _ _
            refine zs_90_53 ?_
            refine And.intro (rfl) (And.intro (rfl) (And.intro (rfl) (And.intro (rfl) (And.intro (And.intro rfl rfl) (And.intro (rfl) ?_)))))
            replace hr := Option.some.inj hr
            subst hr
            exact And.intro rfl (And.intro rfl rfl)
        · rw [if_neg h2] at hr
          refine And.intro (rfl) ?_
          show zz_run _ 90 28 [some (.ref 9), some (.ref 8)] [.int ((I 9 4) - 1), .ref 9] (zz_S F I J) _ _
          refine zs_90_28 ?_
          refine And.intro (rfl) (And.intro (rfl) (And.intro (And.intro rfl rfl) (And.intro (rfl) (And.intro (fun (h4 : 12 ≤ ((I 9 4) - 1)) => ?_) (fun (h4 : ¬ (12 ≤ ((I 9 4) - 1))) => ?_)))))
          · rw [if_pos h4] at hr
            show zz_run _ 90 53 [some (.ref 9), some (.ref 8)] [] (zz_S F (zz_u I 9 4 ((I 9 4) - 1)) J) _ _
            refine zs_90_53 ?_
            refine And.intro (rfl) (And.intro (rfl) (And.intro (rfl) (And.intro (rfl) (And.intro (And.intro rfl rfl) (And.intro (rfl) ?_)))))
            replace hr := Option.some.inj hr
            subst hr
            exact And.intro rfl (And.intro rfl rfl)
          · rw [if_neg h4] at hr
            refine And.intro (rfl) (And.intro (rfl) (And.intro (rfl) ?_))
            have g3 : ¬ (((I 9 4) - 1) < 0 ∨ 12 ≤ ((I 9 4) - 1).toNatClampNeg) := zz_g hr
            replace hr := zz_gt hr
            refine And.intro (g3) ?_
            have g4 : zz_XR 0 none 0 10 (((I 9 4) - 1).toNatClampNeg) = some ((zz_XR 0 none 0 10 (((I 9 4) - 1).toNatClampNeg)).getD 0) := zz_g hr
            replace hr := zz_gt hr
            refine zz_rvs g4 ?_
            refine And.intro (rfl) (And.intro (Nat.le_of_ble_eq_true rfl) (And.intro (Nat.le_of_ble_eq_true rfl) (And.intro (Nat.le_of_ble_eq_true rfl) ?_)))
            have g5 : 14 ≤ ((zz_XR 0 none 0 10 (((I 9 4) - 1).toNatClampNeg)).getD 0) ∧ ((zz_XR 0 none 0 10 (((I 9 4) - 1).toNatClampNeg)).getD 0) < 28 := zz_g hr
            replace hr := zz_gt hr
            refine Exists.intro _ (Exists.intro _ (And.intro (zr_copyFrom F (zz_u I 9 4 ((I 9 4) - 1)) J d 8 ((zz_XR 0 none 0 10 (((I 9 4) - 1).toNatClampNeg)).getD 0) rfl (zz_rK _ g5)) ?_))
            show zz_run _ 90 53 [some (.ref 9), some (.ref 8)] [] (zz_S F (zz_cpn (zz_u I 9 4 ((I 9 4) - 1)) 8 ((zz_XR 0 none 0 10 (((I 9 4) - 1).toNatClampNeg)).getD 0)) J) _ _
            refine zs_90_53 ?_
            refine And.intro (rfl) (And.intro (rfl) (And.intro (rfl) (And.intro (rfl) (And.intro (And.intro rfl rfl) (And.intro (rfl) ?_)))))
            replace hr := Option.some.inj hr
            subst hr
            exact And.intro rfl (And.intro rfl rfl)
      · rw [if_neg h1] at hr
        replace hr := Option.some.inj hr
        subst hr
        exact And.intro rfl (And.intro rfl rfl)
theorem zr_X6_popInto__8 (F : zz_F) (I : Nat → Nat → Int32) (J : Nat → Nat → Int64) (d N : Nat)  (r : Int32 × (Nat → Nat → Int32) × (Nat → Nat → Int64)) (h : zf_X6_popInto__8 N  I J = some r) : zz_run (d+1) 90 0 [some (.ref 9), some (.ref 8)] [] (zz_S F I J) (some (.int r.1)) (zz_S F (r.2.1) J) := (zq_X6_popInto__8 F d N N)  I J r h
def zb_X6_shelve__8_0 (N : Nat) (rec : Nat → Int32 → (Nat → Nat → Int32) → (Nat → Nat → Int64) → Option (Int32 × (Nat → Nat → Int32) × (Nat → Nat → Int64))) (l1 : Int32) (I : Nat → Nat → Int32) (J : Nat → Nat → Int64) : Option (Int32 × (Nat → Nat → Int32) × (Nat → Nat → Int64)) := if l1 < 0 then (some (0, I, J)) else (if 2 ≤ l1 then (some (0, I, J)) else (if zz_XR 0 none 0 11 l1.toNatClampNeg = some ((zz_XR 0 none 0 11 l1.toNatClampNeg).getD 0) then (if 14 ≤ ((zz_XR 0 none 0 11 l1.toNatClampNeg).getD 0) ∧ ((zz_XR 0 none 0 11 l1.toNatClampNeg).getD 0) < 28 then (some (0, zz_u (zz_cpn I ((zz_XR 0 none 0 11 l1.toNatClampNeg).getD 0) 8) 12 l1.toNatClampNeg (vp_nar .boolean 1), J)) else none) else none))
def zl_X6_shelve__8 (N : Nat) : Nat → Nat → Int32 → (Nat → Nat → Int32) → (Nat → Nat → Int64) → Option (Int32 × (Nat → Nat → Int32) × (Nat → Nat → Int64))
  | 0 => fun _ _ _ _ => none
  | n + 1 => fun pc l1 I J => if pc = 0 then zb_X6_shelve__8_0 N (zl_X6_shelve__8 N n) l1 I J else none
theorem ze_X6_shelve__8_0 (N : Nat) (n : Nat) (l1 : Int32) (I : Nat → Nat → Int32) (J : Nat → Nat → Int64) : zl_X6_shelve__8 N (n+1) 0 l1 I J = zb_X6_shelve__8_0 N (zl_X6_shelve__8 N n) l1 I J := by
  show (if 0 = 0 then zb_X6_shelve__8_0 N (zl_X6_shelve__8 N n) l1 I J else none) = _
  rw [if_pos rfl]
def zf_X6_shelve__8 (N : Nat) (l1 : Int32) (I : Nat → Nat → Int32) (J : Nat → Nat → Int64) : Option (Int32 × (Nat → Nat → Int32) × (Nat → Nat → Int64)) := zl_X6_shelve__8 N N 0 l1 I J
theorem zq_X6_shelve__8 (F : zz_F) (d N : Nat) : ∀ n : Nat, (∀ (l1 : Int32) (I : Nat → Nat → Int32) (J : Nat → Nat → Int64) (r : Int32 × (Nat → Nat → Int32) × (Nat → Nat → Int64)), zl_X6_shelve__8 N n 0 l1 I J = some r → zz_run (d+1) 94 0 [some (.ref 9), some (.int l1), some (.ref 8)] [] (zz_S F I J) none (zz_S F (r.2.1) J)) := by
  intro n
  induction n with
  | zero => exact fun _ _ _ _ h => zz_no h
  | succ n ih =>
    have ih0 := ih
    skip
    · intro l1 I J r hr
      rw [ze_X6_shelve__8_0] at hr
      unfold zb_X6_shelve__8_0 at hr
      refine zs_94_0 ?_
      refine And.intro (fun (h1 : l1 < 0) => ?_) (fun (h1 : ¬ (l1 < 0)) => ?_)
      · rw [if_pos h1] at hr
        show zz_run _ 94 26 [some (.ref 9), some (.int l1), some (.ref 8)] [] (zz_S F I J) _ _
        refine zs_94_26 ?_
        replace hr := Option.some.inj hr
        subst hr
        exact And.intro rfl (And.intro rfl rfl)
      · rw [if_neg h1] at hr
        refine And.intro (fun (h2 : 2 ≤ l1) => ?_) (fun (h2 : ¬ (2 ≤ l1)) => ?_)
        · rw [if_pos h2] at hr
          show zz_run _ 94 26 [some (.ref 9), some (.int l1), some (.ref 8)] [] (zz_S F I J) _ _
          refine zs_94_26 ?_
          replace hr := Option.some.inj hr
          subst hr
          exact And.intro rfl (And.intro rfl rfl)
        · rw [if_neg h2] at hr
          refine And.intro (rfl) (And.intro (rfl) (And.intro (zz_vin (n := 2) h1 h2 (Nat.le_of_ble_eq_true rfl)) ?_))
          have g1 : zz_XR 0 none 0 11 l1.toNatClampNeg = some ((zz_XR 0 none 0 11 l1.toNatClampNeg).getD 0) := zz_g hr
          replace hr := zz_gt hr
          refine zz_rvs g1 ?_
          have g2 : 14 ≤ ((zz_XR 0 none 0 11 l1.toNatClampNeg).getD 0) ∧ ((zz_XR 0 none 0 11 l1.toNatClampNeg).getD 0) < 28 := zz_g hr
          replace hr := zz_gt hr
          refine And.intro ((zz_rK _ g2)) (And.intro (Nat.le_of_ble_eq_true rfl) (And.intro (Nat.le_of_ble_eq_true rfl) (And.intro (Nat.le_of_ble_eq_true rfl) ?_)))
          refine Exists.intro _ (Exists.intro _ (And.intro (zr_copyFrom F I J d ((zz_XR 0 none 0 11 l1.toNatClampNeg).getD 0) 8 (zz_rK _ g2) rfl) ?_))
          refine And.intro (rfl) (And.intro (Or.inr rfl) (And.intro (zz_vin (n := 2) h1 h2 (Nat.le_of_ble_eq_true rfl)) ?_))
          show zz_run _ 94 26 [some (.ref 9), some (.int l1), some (.ref 8)] [] (zz_S F (zz_u (zz_cpn I ((zz_XR 0 none 0 11 l1.toNatClampNeg).getD 0) 8) 12 l1.toNatClampNeg (vp_nar .boolean 1)) J) _ _
          refine zs_94_26 ?_
          replace hr := Option.some.inj hr
          subst hr
          exact And.intro rfl (And.intro rfl rfl)
theorem zr_X6_shelve__8 (F : zz_F) (I : Nat → Nat → Int32) (J : Nat → Nat → Int64) (d N : Nat) (l1 : Int32) (r : Int32 × (Nat → Nat → Int32) × (Nat → Nat → Int64)) (h : zf_X6_shelve__8 N l1 I J = some r) : zz_run (d+1) 94 0 [some (.ref 9), some (.int l1), some (.ref 8)] [] (zz_S F I J) none (zz_S F (r.2.1) J) := (zq_X6_shelve__8 F d N N) l1 I J r h
def zb_X6_unshelve__8_0 (N : Nat) (rec : Nat → Int32 → (Nat → Nat → Int32) → (Nat → Nat → Int64) → Option (Int32 × (Nat → Nat → Int32) × (Nat → Nat → Int64))) (l1 : Int32) (I : Nat → Nat → Int32) (J : Nat → Nat → Int64) : Option (Int32 × (Nat → Nat → Int32) × (Nat → Nat → Int64)) := if (zv_X6_isShelved I l1) = 0 then (some (0, I, J)) else (if ¬ (l1 < 0 ∨ 2 ≤ l1.toNatClampNeg) then (if zz_XR 0 none 0 11 l1.toNatClampNeg = some ((zz_XR 0 none 0 11 l1.toNatClampNeg).getD 0) then (if 14 ≤ ((zz_XR 0 none 0 11 l1.toNatClampNeg).getD 0) ∧ ((zz_XR 0 none 0 11 l1.toNatClampNeg).getD 0) < 28 then (some (0, zz_cpn I 8 ((zz_XR 0 none 0 11 l1.toNatClampNeg).getD 0), J)) else none) else none) else none)
def zl_X6_unshelve__8 (N : Nat) : Nat → Nat → Int32 → (Nat → Nat → Int32) → (Nat → Nat → Int64) → Option (Int32 × (Nat → Nat → Int32) × (Nat → Nat → Int64))
  | 0 => fun _ _ _ _ => none
  | n + 1 => fun pc l1 I J => if pc = 0 then zb_X6_unshelve__8_0 N (zl_X6_unshelve__8 N n) l1 I J else none
theorem ze_X6_unshelve__8_0 (N : Nat) (n : Nat) (l1 : Int32) (I : Nat → Nat → Int32) (J : Nat → Nat → Int64) : zl_X6_unshelve__8 N (n+1) 0 l1 I J = zb_X6_unshelve__8_0 N (zl_X6_unshelve__8 N n) l1 I J := by
  show (if 0 = 0 then zb_X6_unshelve__8_0 N (zl_X6_unshelve__8 N n) l1 I J else none) = _
  rw [if_pos rfl]
def zf_X6_unshelve__8 (N : Nat) (l1 : Int32) (I : Nat → Nat → Int32) (J : Nat → Nat → Int64) : Option (Int32 × (Nat → Nat → Int32) × (Nat → Nat → Int64)) := zl_X6_unshelve__8 N N 0 l1 I J
theorem zq_X6_unshelve__8 (F : zz_F) (d N : Nat) : ∀ n : Nat, (∀ (l1 : Int32) (I : Nat → Nat → Int32) (J : Nat → Nat → Int64) (r : Int32 × (Nat → Nat → Int32) × (Nat → Nat → Int64)), zl_X6_unshelve__8 N n 0 l1 I J = some r → zz_run (d+1) 95 0 [some (.ref 9), some (.int l1), some (.ref 8)] [] (zz_S F I J) none (zz_S F (r.2.1) J)) := by
  intro n
  induction n with
  | zero => exact fun _ _ _ _ h => zz_no h
  | succ n ih =>
    have ih0 := ih
    skip
    · intro l1 I J r hr
      rw [ze_X6_unshelve__8_0] at hr
      unfold zb_X6_unshelve__8_0 at hr
      refine zs_95_0 ?_
      refine And.intro (rfl) (And.intro (Nat.le_of_ble_eq_true rfl) (And.intro (Nat.le_of_ble_eq_true rfl) (And.intro (Nat.le_of_ble_eq_true rfl) ?_)))
      refine Exists.intro _ (Exists.intro _ (And.intro (zr_X6_isShelved F I J d l1) ?_))
      refine And.intro (fun (h1 : (zv_X6_isShelved I l1) = 0) => ?_) (fun (h1 : ¬ ((zv_X6_isShelved I l1) = 0)) => ?_)
      · rw [if_pos h1] at hr
        show zz_run _ 95 18 [some (.ref 9), some (.int l1), some (.ref 8)] [] (zz_S F I J) _ _
        refine zs_95_18 ?_
        replace hr := Option.some.inj hr
        subst hr
        exact And.intro rfl (And.intro rfl rfl)
      · rw [if_neg h1] at hr
        refine And.intro (rfl) (And.intro (rfl) ?_)
        have g1 : ¬ (l1 < 0 ∨ 2 ≤ l1.toNatClampNeg) := zz_g hr
        replace hr := zz_gt hr
        refine And.intro (g1) ?_
        have g2 : zz_XR 0 none 0 11 l1.toNatClampNeg = some ((zz_XR 0 none 0 11 l1.toNatClampNeg).getD 0) := zz_g hr
        replace hr := zz_gt hr
        refine zz_rvs g2 ?_
        refine And.intro (rfl) (And.intro (Nat.le_of_ble_eq_true rfl) (And.intro (Nat.le_of_ble_eq_true rfl) (And.intro (Nat.le_of_ble_eq_true rfl) ?_)))
        have g3 : 14 ≤ ((zz_XR 0 none 0 11 l1.toNatClampNeg).getD 0) ∧ ((zz_XR 0 none 0 11 l1.toNatClampNeg).getD 0) < 28 := zz_g hr
        replace hr := zz_gt hr
        refine Exists.intro _ (Exists.intro _ (And.intro (zr_copyFrom F I J d 8 ((zz_XR 0 none 0 11 l1.toNatClampNeg).getD 0) rfl (zz_rK _ g3)) ?_))
        show zz_run _ 95 18 [some (.ref 9), some (.int l1), some (.ref 8)] [] (zz_S F (zz_cpn I 8 ((zz_XR 0 none 0 11 l1.toNatClampNeg).getD 0)) J) _ _
        refine zs_95_18 ?_
        replace hr := Option.some.inj hr
        subst hr
        exact And.intro rfl (And.intro rfl rfl)
theorem zr_X6_unshelve__8 (F : zz_F) (I : Nat → Nat → Int32) (J : Nat → Nat → Int64) (d N : Nat) (l1 : Int32) (r : Int32 × (Nat → Nat → Int32) × (Nat → Nat → Int64)) (h : zf_X6_unshelve__8 N l1 I J = some r) : zz_run (d+1) 95 0 [some (.ref 9), some (.int l1), some (.ref 8)] [] (zz_S F I J) none (zz_S F (r.2.1) J) := (zq_X6_unshelve__8 F d N N) l1 I J r h
def zb_X9_grow_0 (N : Nat) (rec : Nat → Int32 → Int32 → Int32 → (Nat → Nat → Int32) → (Nat → Nat → Int64) → Option (Int32 × (Nat → Nat → Int32) × (Nat → Nat → Int64))) (l1 : Int32) (l2 : Int32) (l3 : Int32) (I : Nat → Nat → Int32) (J : Nat → Nat → Int64) : Option (Int32 × (Nat → Nat → Int32) × (Nat → Nat → Int64)) := rec 4 l1 0 0 I J
def zb_X9_grow_4 (N : Nat) (rec : Nat → Int32 → Int32 → Int32 → (Nat → Nat → Int32) → (Nat → Nat → Int64) → Option (Int32 × (Nat → Nat → Int32) × (Nat → Nat → Int64))) (l1 : Int32) (l2 : Int32) (l3 : Int32) (I : Nat → Nat → Int32) (J : Nat → Nat → Int64) : Option (Int32 × (Nat → Nat → Int32) × (Nat → Nat → Int64)) := if l1 ≤ l3 then (some (l2, I, J)) else (if 12 ≤ (I 5 2) then (some (l2, I, J)) else (if ¬ (zz_f I (I 5 2) 0) = 1 then (rec 4 l1 (l2 ||| ((1 : Int32) <<< ((I 5 2) &&& 31))) (l3 + 1) (zz_u (zz_u I 7 0 ((I 7 0) ||| ((1 : Int32) <<< ((I 5 2) &&& 31)))) 5 2 ((I 5 2) + 1)) J) else (rec 4 l1 (l2 ||| ((1 : Int32) <<< ((I 5 2) &&& 31))) (l3 + 1) (zz_u (zz_u I 7 1 ((I 7 1) ||| ((1 : Int32) <<< ((I 5 2) &&& 31)))) 5 2 ((I 5 2) + 1)) J)))
def zl_X9_grow (N : Nat) : Nat → Nat → Int32 → Int32 → Int32 → (Nat → Nat → Int32) → (Nat → Nat → Int64) → Option (Int32 × (Nat → Nat → Int32) × (Nat → Nat → Int64))
  | 0 => fun _ _ _ _ _ _ => none
  | n + 1 => fun pc l1 l2 l3 I J => if pc = 0 then zb_X9_grow_0 N (zl_X9_grow N n) l1 l2 l3 I J else (if pc = 4 then zb_X9_grow_4 N (zl_X9_grow N n) l1 l2 l3 I J else none)
theorem ze_X9_grow_0 (N : Nat) (n : Nat) (l1 : Int32) (l2 : Int32) (l3 : Int32) (I : Nat → Nat → Int32) (J : Nat → Nat → Int64) : zl_X9_grow N (n+1) 0 l1 l2 l3 I J = zb_X9_grow_0 N (zl_X9_grow N n) l1 l2 l3 I J := by
  show (if 0 = 0 then zb_X9_grow_0 N (zl_X9_grow N n) l1 l2 l3 I J else (if 0 = 4 then zb_X9_grow_4 N (zl_X9_grow N n) l1 l2 l3 I J else none)) = _
  rw [if_pos rfl]
theorem ze_X9_grow_4 (N : Nat) (n : Nat) (l1 : Int32) (l2 : Int32) (l3 : Int32) (I : Nat → Nat → Int32) (J : Nat → Nat → Int64) : zl_X9_grow N (n+1) 4 l1 l2 l3 I J = zb_X9_grow_4 N (zl_X9_grow N n) l1 l2 l3 I J := by
  show (if 4 = 0 then zb_X9_grow_0 N (zl_X9_grow N n) l1 l2 l3 I J else (if 4 = 4 then zb_X9_grow_4 N (zl_X9_grow N n) l1 l2 l3 I J else none)) = _
  rw [if_neg (by decide), if_pos rfl]
def zf_X9_grow (N : Nat) (l1 : Int32) (I : Nat → Nat → Int32) (J : Nat → Nat → Int64) : Option (Int32 × (Nat → Nat → Int32) × (Nat → Nat → Int64)) := zl_X9_grow N N 0 l1 0 0 I J
theorem zq_X9_grow (F : zz_F) (d N : Nat) : ∀ n : Nat, (∀ (l1 : Int32) (l2 : Int32) (l3 : Int32) (I : Nat → Nat → Int32) (J : Nat → Nat → Int64) (r : Int32 × (Nat → Nat → Int32) × (Nat → Nat → Int64)), zl_X9_grow N n 0 l1 l2 l3 I J = some r → zz_run (d+1) 116 0 [some (.ref 5), some (.int l1), none, none, none, none] [] (zz_S F I J) (some (.int r.1)) (zz_S F (r.2.1) J)) ∧ (∀ (l1 : Int32) (l2 : Int32) (l3 : Int32) (I : Nat → Nat → Int32) (J : Nat → Nat → Int64) (r : Int32 × (Nat → Nat → Int32) × (Nat → Nat → Int64)), zl_X9_grow N n 4 l1 l2 l3 I J = some r → zz_run (d+1) 116 4 [some (.ref 5), some (.int l1), some (.int l2), some (.int l3), none, none] [] (zz_S F I J) (some (.int r.1)) (zz_S F (r.2.1) J)) := by
  intro n
  induction n with
  | zero => exact ⟨fun _ _ _ _ _ _ h => zz_no h, fun _ _ _ _ _ _ h => zz_no h⟩
  | succ n ih =>
    obtain ⟨ih0, ih4⟩ := ih
    refine ⟨?_, ?_⟩
    · intro l1 l2 l3 I J r hr
      rw [ze_X9_grow_0] at hr
      unfold zb_X9_grow_0 at hr
      refine zs_116_0 ?_
      exact zz_wk [true, true, true, true, false, false] rfl (ih4 _ _ _ _ _ _ hr)
    · intro l1 l2 l3 I J r hr
      rw [ze_X9_grow_4] at hr
      unfold zb_X9_grow_4 at hr
      refine zs_116_4 ?_
      refine And.intro (fun (h1 : l1 ≤ l3) => ?_) (fun (h1 : ¬ (l1 ≤ l3)) => ?_)
      · rw [if_pos h1] at hr
        show zz_run _ 116 79 [some (.ref 5), some (.int l1), some (.int l2), some (.int l3), none, none] [] (zz_S F I J) _ _
        refine zs_116_79 ?_
        replace hr := Option.some.inj hr
        subst hr
        exact And.intro rfl (And.intro rfl rfl)
      · rw [if_neg h1] at hr
        refine And.intro (rfl) (And.intro (fun (h2 : 12 ≤ (I 5 2)) => ?_) (fun (h2 : ¬ (12 ≤ (I 5 2))) => ?_))
        · rw [if_pos h2] at hr
          show zz_run _ 116 79 [some (.ref 5), some (.int l1), some (.int l2), some (.int l3), none, none] [] (zz_S F I J) _ _
          refine zs_116_79 ?_
          replace hr := Option.some.inj hr
          subst hr
          exact And.intro rfl (And.intro rfl rfl)
        · rw [if_neg h2] at hr
          refine And.intro (rfl) (And.intro (rfl) (And.intro (rfl) (And.intro (Nat.le_of_ble_eq_true rfl) (And.intro (Nat.le_of_ble_eq_true rfl) (And.intro (Nat.le_of_ble_eq_true rfl) ?_)))))
          refine Exists.intro _ (Exists.intro _ (And.intro (zr_of F I J d (I 5 2) 0) ?_))
          refine And.intro (fun (h3 : ¬ (zz_f I (I 5 2) 0) = 1) => ?_) (fun (h3 : ¬ (¬ (zz_f I (I 5 2) 0) = 1)) => ?_)
          · rw [if_pos h3] at hr
            show zz_run _ 116 48 [some (.ref 5), some (.int l1), some (.int (l2 ||| ((1 : Int32) <<< ((I 5 2) &&& 31)))), some (.int l3), some (.int ((1 : Int32) <<< ((I 5 2) &&& 31))), none] [] (zz_S F I J) _ _
            refine zs_116_48 ?_
            show zz_run _ 116 49 [some (.ref 5), some (.int l1), some (.int (l2 ||| ((1 : Int32) <<< ((I 5 2) &&& 31)))), some (.int l3), some (.int ((1 : Int32) <<< ((I 5 2) &&& 31))), none] [.int 0] (zz_S F I J) _ _
            refine zs_116_49 ?_
            refine And.intro (rfl) (And.intro (rfl) (And.intro (rfl) (And.intro (Or.inl rfl) (And.intro (zz_vk (k := 0) rfl rfl) (And.intro (rfl) ?_)))))
            refine And.intro (zz_vk (k := 0) rfl rfl) (And.intro (rfl) (And.intro (rfl) (And.intro (rfl) (And.intro (rfl) (And.intro (And.intro rfl rfl) ?_)))))
            exact zz_wk [true, true, true, true, false, false] rfl (ih4 _ _ _ _ _ _ hr)
          · rw [if_neg h3] at hr
            show zz_run _ 116 49 [some (.ref 5), some (.int l1), some (.int (l2 ||| ((1 : Int32) <<< ((I 5 2) &&& 31)))), some (.int l3), some (.int ((1 : Int32) <<< ((I 5 2) &&& 31))), none] [.int 1] (zz_S F I J) _ _
            refine zs_116_49 ?_
            refine And.intro (rfl) (And.intro (rfl) (And.intro (rfl) (And.intro (Or.inl rfl) (And.intro (zz_vk (k := 1) rfl rfl) (And.intro (rfl) ?_)))))
            refine And.intro (zz_vk (k := 1) rfl rfl) (And.intro (rfl) (And.intro (rfl) (And.intro (rfl) (And.intro (rfl) (And.intro (And.intro rfl rfl) ?_)))))
            exact zz_wk [true, true, true, true, false, false] rfl (ih4 _ _ _ _ _ _ hr)
theorem zr_X9_grow (F : zz_F) (I : Nat → Nat → Int32) (J : Nat → Nat → Int64) (d N : Nat) (l1 : Int32) (r : Int32 × (Nat → Nat → Int32) × (Nat → Nat → Int64)) (h : zf_X9_grow N l1 I J = some r) : zz_run (d+1) 116 0 [some (.ref 5), some (.int l1), none, none, none, none] [] (zz_S F I J) (some (.int r.1)) (zz_S F (r.2.1) J) := (zq_X9_grow F d N N).1 l1 0 0 I J r h
def zb_X10_spread_0 (N : Nat) (rec : Nat → Int32 → Int32 → Int32 → Int32 → (Nat → Nat → Int32) → (Nat → Nat → Int64) → zz_F → Option (Int32 × (Nat → Nat → Int32) × (Nat → Nat → Int64) × zz_F)) (l1 : Int32) (l2 : Int32) (l3 : Int32) (l4 : Int32) (I : Nat → Nat → Int32) (J : Nat → Nat → Int64) (F : zz_F) : Option (Int32 × (Nat → Nat → Int32) × (Nat → Nat → Int64) × zz_F) := rec 3 l1 l2 l3 0 I J F
def zb_X10_spread_3 (N : Nat) (rec : Nat → Int32 → Int32 → Int32 → Int32 → (Nat → Nat → Int32) → (Nat → Nat → Int64) → zz_F → Option (Int32 × (Nat → Nat → Int32) × (Nat → Nat → Int64) × zz_F)) (l1 : Int32) (l2 : Int32) (l3 : Int32) (l4 : Int32) (I : Nat → Nat → Int32) (J : Nat → Nat → Int64) (F : zz_F) : Option (Int32 × (Nat → Nat → Int32) × (Nat → Nat → Int64) × zz_F) := if l2 ≤ l4 then (some (0, I, J, F)) else (if (nI 12) ≤ l4 then (some (0, I, J, F)) else (if (l1 ||| ((1 : Int32) <<< (l4 &&& 31))) = l1 then (rec 3 l1 l2 l3 (l4 + 1) I J F) else (if zz_XK F.2.2.1 (zz_mo F) = 14 then (if (nI (zz_XL F.2.2.2.2.1 F.2.2.2.1 (zz_mo F))) ≤ (l1 ||| ((1 : Int32) <<< (l4 &&& 31))) then (rec 3 l1 l2 l3 (l4 + 1) I J F) else (if (nI (zz_XL F.2.2.2.2.1 F.2.2.2.1 (zz_mo F))) ≤ l1 then (rec 3 l1 l2 l3 (l4 + 1) I J F) else (if ¬ ((l1 ||| ((1 : Int32) <<< (l4 &&& 31))) < 0 ∨ (zz_XL F.2.2.2.2.1 F.2.2.2.1 (zz_mo F)) ≤ (l1 ||| ((1 : Int32) <<< (l4 &&& 31))).toNatClampNeg) then (if ¬ (l1 < 0 ∨ (zz_XL F.2.2.2.2.1 F.2.2.2.1 (zz_mo F)) ≤ l1.toNatClampNeg) then (if ¬ (l4 < 0 ∨ 12 ≤ l4.toNatClampNeg) then (rec 3 l1 l2 l3 (l4 + 1) (zz_u I (zz_mo F) ((l1 ||| ((1 : Int32) <<< (l4 &&& 31))).toNatClampNeg) (zz_max (I (zz_mo F) ((l1 ||| ((1 : Int32) <<< (l4 &&& 31))).toNatClampNeg)) ((I (zz_mo F) l1.toNatClampNeg) + (zz_cheer I (I 47 l4.toNatClampNeg) l3)))) J F) else none) else none) else none))) else none)))
def zl_X10_spread (N : Nat) : Nat → Nat → Int32 → Int32 → Int32 → Int32 → (Nat → Nat → Int32) → (Nat → Nat → Int64) → zz_F → Option (Int32 × (Nat → Nat → Int32) × (Nat → Nat → Int64) × zz_F)
  | 0 => fun _ _ _ _ _ _ _ _ => none
  | n + 1 => fun pc l1 l2 l3 l4 I J F => if pc = 0 then zb_X10_spread_0 N (zl_X10_spread N n) l1 l2 l3 l4 I J F else (if pc = 3 then zb_X10_spread_3 N (zl_X10_spread N n) l1 l2 l3 l4 I J F else none)
theorem ze_X10_spread_0 (N : Nat) (n : Nat) (l1 : Int32) (l2 : Int32) (l3 : Int32) (l4 : Int32) (I : Nat → Nat → Int32) (J : Nat → Nat → Int64) (F : zz_F) : zl_X10_spread N (n+1) 0 l1 l2 l3 l4 I J F = zb_X10_spread_0 N (zl_X10_spread N n) l1 l2 l3 l4 I J F := by
  show (if 0 = 0 then zb_X10_spread_0 N (zl_X10_spread N n) l1 l2 l3 l4 I J F else (if 0 = 3 then zb_X10_spread_3 N (zl_X10_spread N n) l1 l2 l3 l4 I J F else none)) = _
  rw [if_pos rfl]
theorem ze_X10_spread_3 (N : Nat) (n : Nat) (l1 : Int32) (l2 : Int32) (l3 : Int32) (l4 : Int32) (I : Nat → Nat → Int32) (J : Nat → Nat → Int64) (F : zz_F) : zl_X10_spread N (n+1) 3 l1 l2 l3 l4 I J F = zb_X10_spread_3 N (zl_X10_spread N n) l1 l2 l3 l4 I J F := by
  show (if 3 = 0 then zb_X10_spread_0 N (zl_X10_spread N n) l1 l2 l3 l4 I J F else (if 3 = 3 then zb_X10_spread_3 N (zl_X10_spread N n) l1 l2 l3 l4 I J F else none)) = _
  rw [if_neg (by decide), if_pos rfl]
def zf_X10_spread (N : Nat) (l1 : Int32) (l2 : Int32) (l3 : Int32) (I : Nat → Nat → Int32) (J : Nat → Nat → Int64) (F : zz_F) : Option (Int32 × (Nat → Nat → Int32) × (Nat → Nat → Int64) × zz_F) := zl_X10_spread N N 0 l1 l2 l3 0 I J F
theorem zq_X10_spread (d N : Nat) : ∀ n : Nat, (∀ (l1 : Int32) (l2 : Int32) (l3 : Int32) (l4 : Int32) (I : Nat → Nat → Int32) (J : Nat → Nat → Int64) (F : zz_F) (r : Int32 × (Nat → Nat → Int32) × (Nat → Nat → Int64) × zz_F), zl_X10_spread N n 0 l1 l2 l3 l4 I J F = some r → zz_run (d+3) 132 0 [some (.ref 46), some (.int l1), some (.int l2), some (.int l3), none, none] [] (zz_S F I J) none (zz_S (r.2.2.2) (r.2.1) (r.2.2.1))) ∧ (∀ (l1 : Int32) (l2 : Int32) (l3 : Int32) (l4 : Int32) (I : Nat → Nat → Int32) (J : Nat → Nat → Int64) (F : zz_F) (r : Int32 × (Nat → Nat → Int32) × (Nat → Nat → Int64) × zz_F), zl_X10_spread N n 3 l1 l2 l3 l4 I J F = some r → zz_run (d+3) 132 3 [some (.ref 46), some (.int l1), some (.int l2), some (.int l3), some (.int l4), none] [] (zz_S F I J) none (zz_S (r.2.2.2) (r.2.1) (r.2.2.1))) := by
  intro n
  induction n with
  | zero => exact ⟨fun _ _ _ _ _ _ _ _ h => zz_no h, fun _ _ _ _ _ _ _ _ h => zz_no h⟩
  | succ n ih =>
    obtain ⟨ih0, ih3⟩ := ih
    refine ⟨?_, ?_⟩
    · intro l1 l2 l3 l4 I J F r hr
      rw [ze_X10_spread_0] at hr
      unfold zb_X10_spread_0 at hr
      refine zs_132_0 ?_
      exact zz_wk [true, true, true, true, true, false] rfl (ih3 _ _ _ _ _ _ _ _ hr)
    · intro l1 l2 l3 l4 I J F r hr
      rw [ze_X10_spread_3] at hr
      unfold zb_X10_spread_3 at hr
      refine zs_132_3 ?_
      refine And.intro (fun (h1 : l2 ≤ l4) => ?_) (fun (h1 : ¬ (l2 ≤ l4)) => ?_)
      · rw [if_pos h1] at hr
        show zz_run _ 132 97 [some (.ref 46), some (.int l1), some (.int l2), some (.int l3), some (.int l4), none] [] (zz_S F I J) _ _
        refine zs_132_97 ?_
        replace hr := Option.some.inj hr
        subst hr
        exact And.intro rfl (And.intro rfl rfl)
      · rw [if_neg h1] at hr
        refine And.intro (rfl) (And.intro (Nat.le_of_ble_eq_true rfl) (And.intro (Nat.le_of_ble_eq_true rfl) (And.intro (fun (h2 : (nI 12) ≤ l4) => ?_) (fun (h2 : ¬ ((nI 12) ≤ l4)) => ?_))))
        · rw [if_pos h2] at hr
          show zz_run _ 132 97 [some (.ref 46), some (.int l1), some (.int l2), some (.int l3), some (.int l4), none] [] (zz_S F I J) _ _
          refine zs_132_97 ?_
          replace hr := Option.some.inj hr
          subst hr
          exact And.intro rfl (And.intro rfl rfl)
        · rw [if_neg h2] at hr
          refine And.intro (fun (h3 : (l1 ||| ((1 : Int32) <<< (l4 &&& 31))) = l1) => ?_) (fun (h3 : ¬ ((l1 ||| ((1 : Int32) <<< (l4 &&& 31))) = l1)) => ?_)
          · rw [if_pos h3] at hr
            show zz_run _ 132 91 [some (.ref 46), some (.int l1), some (.int l2), some (.int l3), some (.int l4), some (.int (l1 ||| ((1 : Int32) <<< (l4 &&& 31))))] [] (zz_S F I J) _ _
            refine zs_132_91 ?_
            exact zz_wk [true, true, true, true, true, false] rfl (ih3 _ _ _ _ _ _ _ _ hr)
          · rw [if_neg h3] at hr
            refine And.intro (rfl) ?_
            have g1 : zz_XK F.2.2.1 (zz_mo F) = 14 := zz_g hr
            replace hr := zz_gt hr
            refine And.intro (zz_len1 g1) (And.intro (zz_len2 g1) (And.intro (fun (h4 : (nI (zz_XL F.2.2.2.2.1 F.2.2.2.1 (zz_mo F))) ≤ (l1 ||| ((1 : Int32) <<< (l4 &&& 31)))) => ?_) (fun (h4 : ¬ ((nI (zz_XL F.2.2.2.2.1 F.2.2.2.1 (zz_mo F))) ≤ (l1 ||| ((1 : Int32) <<< (l4 &&& 31))))) => ?_)))
            · rw [if_pos h4] at hr
              show zz_run _ 132 91 [some (.ref 46), some (.int l1), some (.int l2), some (.int l3), some (.int l4), some (.int (l1 ||| ((1 : Int32) <<< (l4 &&& 31))))] [] (zz_S F I J) _ _
              refine zs_132_91 ?_
              exact zz_wk [true, true, true, true, true, false] rfl (ih3 _ _ _ _ _ _ _ _ hr)
            · rw [if_neg h4] at hr
              refine And.intro (rfl) (And.intro (zz_len1 g1) (And.intro (zz_len2 g1) (And.intro (fun (h5 : (nI (zz_XL F.2.2.2.2.1 F.2.2.2.1 (zz_mo F))) ≤ l1) => ?_) (fun (h5 : ¬ ((nI (zz_XL F.2.2.2.2.1 F.2.2.2.1 (zz_mo F))) ≤ l1)) => ?_))))
              · rw [if_pos h5] at hr
                show zz_run _ 132 91 [some (.ref 46), some (.int l1), some (.int l2), some (.int l3), some (.int l4), some (.int (l1 ||| ((1 : Int32) <<< (l4 &&& 31))))] [] (zz_S F I J) _ _
                refine zs_132_91 ?_
                exact zz_wk [true, true, true, true, true, false] rfl (ih3 _ _ _ _ _ _ _ _ hr)
              · rw [if_neg h5] at hr
                refine And.intro (rfl) (And.intro (rfl) (And.intro (Or.inl g1) ?_))
                have g2 : ¬ ((l1 ||| ((1 : Int32) <<< (l4 &&& 31))) < 0 ∨ (zz_XL F.2.2.2.2.1 F.2.2.2.1 (zz_mo F)) ≤ (l1 ||| ((1 : Int32) <<< (l4 &&& 31))).toNatClampNeg) := zz_g hr
                replace hr := zz_gt hr
                refine And.intro (g2) (And.intro (rfl) (And.intro (Or.inl g1) ?_))
                have g3 : ¬ (l1 < 0 ∨ (zz_XL F.2.2.2.2.1 F.2.2.2.1 (zz_mo F)) ≤ l1.toNatClampNeg) := zz_g hr
                replace hr := zz_gt hr
                refine And.intro (g3) (And.intro (rfl) (And.intro (rfl) (And.intro (Or.inl rfl) ?_)))
                have g4 : ¬ (l4 < 0 ∨ 12 ≤ l4.toNatClampNeg) := zz_g hr
                replace hr := zz_gt hr
                refine And.intro (g4) (And.intro (rfl) (And.intro (Nat.le_of_ble_eq_true rfl) (And.intro (Nat.le_of_ble_eq_true rfl) (And.intro (Nat.le_of_ble_eq_true rfl) ?_))))
                refine Exists.intro _ (Exists.intro _ (And.intro (zr_cheerWith F I J d (I 47 l4.toNatClampNeg) l3) ?_))
                refine And.intro (Nat.le_of_ble_eq_true rfl) (And.intro (Nat.le_of_ble_eq_true rfl) (And.intro (Nat.le_of_ble_eq_true rfl) ?_))
                refine Exists.intro _ (Exists.intro _ (And.intro (zr_max F I J (d+2) (I (zz_mo F) ((l1 ||| ((1 : Int32) <<< (l4 &&& 31))).toNatClampNeg)) ((I (zz_mo F) l1.toNatClampNeg) + (zz_cheer I (I 47 l4.toNatClampNeg) l3))) ?_))
                refine And.intro (g1) (And.intro (g2) ?_)
                show zz_run _ 132 91 [some (.ref 46), some (.int l1), some (.int l2), some (.int l3), some (.int l4), some (.int (l1 ||| ((1 : Int32) <<< (l4 &&& 31))))] [] (zz_S F (zz_u I (zz_mo F) ((l1 ||| ((1 : Int32) <<< (l4 &&& 31))).toNatClampNeg) (zz_max (I (zz_mo F) ((l1 ||| ((1 : Int32) <<< (l4 &&& 31))).toNatClampNeg)) ((I (zz_mo F) l1.toNatClampNeg) + (zz_cheer I (I 47 l4.toNatClampNeg) l3)))) J) _ _
                refine zs_132_91 ?_
                exact zz_wk [true, true, true, true, true, false] rfl (ih3 _ _ _ _ _ _ _ _ hr)
theorem zr_X10_spread (d N : Nat) (l1 : Int32) (l2 : Int32) (l3 : Int32) (I : Nat → Nat → Int32) (J : Nat → Nat → Int64) (F : zz_F) (r : Int32 × (Nat → Nat → Int32) × (Nat → Nat → Int64) × zz_F) (h : zf_X10_spread N l1 l2 l3 I J F = some r) : zz_run (d+3) 132 0 [some (.ref 46), some (.int l1), some (.int l2), some (.int l3), none, none] [] (zz_S F I J) none (zz_S (r.2.2.2) (r.2.1) (r.2.2.1)) := (zq_X10_spread d N N).1 l1 l2 l3 0 I J F r h
