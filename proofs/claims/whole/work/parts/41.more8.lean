/-! printed by wip/whole/loop2.py -/
def zb_X12_stepTo_0 (N : Nat) (rec : Nat → Int32 → Int32 → (Nat → Nat → Int32) → (Nat → Nat → Int64) → zz_F → Option (Int32 × (Nat → Nat → Int32) × (Nat → Nat → Int64) × zz_F)) (l1 : Int32) (l2 : Int32) (I : Nat → Nat → Int32) (J : Nat → Nat → Int64) (F : zz_F) : Option (Int32 × (Nat → Nat → Int32) × (Nat → Nat → Int64) × zz_F) := if ¬ l1 = ((-1)) then ((zf_X12_changeOf N l1 l2 I J F).bind fun r1 => if ¬ (((7 * l2) + 1) < 0 ∨ 84 ≤ ((7 * l2) + 1).toNatClampNeg) then (some (r1.1 + (zv_X12_field r1.2.1 l2 1), r1.2.1, r1.2.2.1, r1.2.2.2)) else none) else (if ¬ (((7 * l2) + 1) < 0 ∨ 84 ≤ ((7 * l2) + 1).toNatClampNeg) then (some (0 + (zv_X12_field I l2 1), I, J, F)) else none)
def zl_X12_stepTo (N : Nat) : Nat → Nat → Int32 → Int32 → (Nat → Nat → Int32) → (Nat → Nat → Int64) → zz_F → Option (Int32 × (Nat → Nat → Int32) × (Nat → Nat → Int64) × zz_F)
  | 0 => fun _ _ _ _ _ _ => none
  | n + 1 => fun pc l1 l2 I J F => if pc = 0 then zb_X12_stepTo_0 N (zl_X12_stepTo N n) l1 l2 I J F else none
theorem ze_X12_stepTo_0 (N : Nat) (n : Nat) (l1 : Int32) (l2 : Int32) (I : Nat → Nat → Int32) (J : Nat → Nat → Int64) (F : zz_F) : zl_X12_stepTo N (n+1) 0 l1 l2 I J F = zb_X12_stepTo_0 N (zl_X12_stepTo N n) l1 l2 I J F := by
  show (if 0 = 0 then zb_X12_stepTo_0 N (zl_X12_stepTo N n) l1 l2 I J F else none) = _
  rw [if_pos rfl]
def zf_X12_stepTo (N : Nat) (l1 : Int32) (l2 : Int32) (I : Nat → Nat → Int32) (J : Nat → Nat → Int64) (F : zz_F) : Option (Int32 × (Nat → Nat → Int32) × (Nat → Nat → Int64) × zz_F) := zl_X12_stepTo N N 0 l1 l2 I J F
set_option maxHeartbeats 16000000 in
theorem zq_X12_stepTo (d N : Nat) : ∀ n : Nat, (∀ (l1 : Int32) (l2 : Int32) (I : Nat → Nat → Int32) (J : Nat → Nat → Int64) (F : zz_F) (r : Int32 × (Nat → Nat → Int32) × (Nat → Nat → Int64) × zz_F), zl_X12_stepTo N n 0 l1 l2 I J F = some r → zz_run (d+69) 268 0 [some (.ref 52), some (.int l1), some (.int l2)] [] (zz_S F I J) (some (.int r.1)) (zz_S (r.2.2.2) (r.2.1) (r.2.2.1))) := by
  intro n
  induction n with
  | zero => exact fun _ _ _ _ _ _ h => zz_no h
  | succ n ih =>
    have ih0 := ih
    skip
    · intro l1 l2 I J F r hr
      rw [ze_X12_stepTo_0] at hr
      unfold zb_X12_stepTo_0 at hr
      refine zs_268_0 ?_
      refine And.intro (fun (h1 : ¬ l1 = ((-1))) => ?_) (fun (h1 : ¬ (¬ l1 = ((-1)))) => ?_)
      · rw [if_pos h1] at hr
        show zz_run _ 268 9 [some (.ref 52), some (.int l1), some (.int l2)] [] (zz_S F I J) _ _
        refine zs_268_9 ?_
        refine And.intro (rfl) (And.intro (Nat.le_of_ble_eq_true rfl) (And.intro (Nat.le_of_ble_eq_true rfl) (And.intro (Nat.le_of_ble_eq_true rfl) ?_)))
        obtain ⟨r1, cr1, hr⟩ := Option.bind_eq_some_iff.mp hr
        refine Exists.intro _ (Exists.intro _ (And.intro (zr_X12_changeOf d N l1 l2 I J F r1 cr1) ?_))
        show zz_run _ 268 15 [some (.ref 52), some (.int l1), some (.int l2)] [.int r1.1] (zz_S r1.2.2.2 r1.2.1 r1.2.2.1) _ _
        refine zs_268_15 ?_
        refine And.intro (rfl) (And.intro (Nat.le_of_ble_eq_true rfl) (And.intro (Nat.le_of_ble_eq_true rfl) (And.intro (Nat.le_of_ble_eq_true rfl) ?_)))
        have g2 : ¬ (((7 * l2) + 1) < 0 ∨ 84 ≤ ((7 * l2) + 1).toNatClampNeg) := zz_g hr
        replace hr := zz_gt hr
        refine Exists.intro _ (Exists.intro _ (And.intro (zr_X12_field r1.2.2.2 r1.2.1 r1.2.2.1 (d+68) l2 1 g2) ?_))
        replace hr := Option.some.inj hr
        subst hr
        exact And.intro rfl (And.intro rfl rfl)
      · rw [if_neg h1] at hr
        show zz_run _ 268 15 [some (.ref 52), some (.int l1), some (.int l2)] [.int 0] (zz_S F I J) _ _
        refine zs_268_15 ?_
        refine And.intro (rfl) (And.intro (Nat.le_of_ble_eq_true rfl) (And.intro (Nat.le_of_ble_eq_true rfl) (And.intro (Nat.le_of_ble_eq_true rfl) ?_)))
        have g3 : ¬ (((7 * l2) + 1) < 0 ∨ 84 ≤ ((7 * l2) + 1).toNatClampNeg) := zz_g hr
        replace hr := zz_gt hr
        refine Exists.intro _ (Exists.intro _ (And.intro (zr_X12_field F I J (d+68) l2 1 g3) ?_))
        replace hr := Option.some.inj hr
        subst hr
        exact And.intro rfl (And.intro rfl rfl)
theorem zr_X12_stepTo (d N : Nat) (l1 : Int32) (l2 : Int32) (I : Nat → Nat → Int32) (J : Nat → Nat → Int64) (F : zz_F) (r : Int32 × (Nat → Nat → Int32) × (Nat → Nat → Int64) × zz_F) (h : zf_X12_stepTo N l1 l2 I J F = some r) : zz_run (d+69) 268 0 [some (.ref 52), some (.int l1), some (.int l2)] [] (zz_S F I J) (some (.int r.1)) (zz_S (r.2.2.2) (r.2.1) (r.2.2.1)) := (zq_X12_stepTo d N N) l1 l2 I J F r h
def zb_X12_shortestOf_0 (N : Nat) (rec : Nat → Int32 → Int32 → Int32 → Int32 → Int32 → Int32 → Int32 → Int32 → (Nat → Nat → Int32) → (Nat → Nat → Int64) → zz_F → Option (Int32 × (Nat → Nat → Int32) × (Nat → Nat → Int64) × zz_F)) (l1 : Int32) (l2 : Int32) (l3 : Int32) (l4 : Int32) (l5 : Int32) (l6 : Int32) (l7 : Int32) (l8 : Int32) (I : Nat → Nat → Int32) (J : Nat → Nat → Int64) (F : zz_F) : Option (Int32 × (Nat → Nat → Int32) × (Nat → Nat → Int64) × zz_F) := rec 7 l1 0 0 0 0 0 0 0 I J F
def zb_X12_shortestOf_7 (N : Nat) (rec : Nat → Int32 → Int32 → Int32 → Int32 → Int32 → Int32 → Int32 → Int32 → (Nat → Nat → Int32) → (Nat → Nat → Int64) → zz_F → Option (Int32 × (Nat → Nat → Int32) × (Nat → Nat → Int64) × zz_F)) (l1 : Int32) (l2 : Int32) (l3 : Int32) (l4 : Int32) (l5 : Int32) (l6 : Int32) (l7 : Int32) (l8 : Int32) (I : Nat → Nat → Int32) (J : Nat → Nat → Int64) (F : zz_F) : Option (Int32 × (Nat → Nat → Int32) × (Nat → Nat → Int64) × zz_F) := if (I 52 1) ≤ l4 then (rec 71 0 l2 l3 l2 0 0 0 0 I J F) else (if ¬ (zv_X12_has l1 l4) = 0 then (if ¬ (((7 * l4) + 0) < 0 ∨ 84 ≤ ((7 * l4) + 0).toNatClampNeg) then (if ¬ (zv_X12_playOf I l4) = 0 then (if ¬ (l3 < 0 ∨ 12 ≤ l3.toNatClampNeg) then (rec 62 l1 l2 (l3 + 1) l4 0 0 0 0 (zz_u I 76 l3.toNatClampNeg l4) J F) else none) else (if ¬ (l2 < 0 ∨ 12 ≤ l2.toNatClampNeg) then (rec 62 l1 (l2 + 1) l3 l4 0 0 0 0 (zz_u I 75 l2.toNatClampNeg l4) J F) else none)) else none) else (rec 62 l1 l2 l3 l4 0 0 0 0 I J F))
def zb_X12_shortestOf_62 (N : Nat) (rec : Nat → Int32 → Int32 → Int32 → Int32 → Int32 → Int32 → Int32 → Int32 → (Nat → Nat → Int32) → (Nat → Nat → Int64) → zz_F → Option (Int32 × (Nat → Nat → Int32) × (Nat → Nat → Int64) × zz_F)) (l1 : Int32) (l2 : Int32) (l3 : Int32) (l4 : Int32) (l5 : Int32) (l6 : Int32) (l7 : Int32) (l8 : Int32) (I : Nat → Nat → Int32) (J : Nat → Nat → Int64) (F : zz_F) : Option (Int32 × (Nat → Nat → Int32) × (Nat → Nat → Int64) × zz_F) := rec 7 l1 l2 l3 (l4 + 1) 0 0 0 0 I J F
def zb_X12_shortestOf_71 (N : Nat) (rec : Nat → Int32 → Int32 → Int32 → Int32 → Int32 → Int32 → Int32 → Int32 → (Nat → Nat → Int32) → (Nat → Nat → Int64) → zz_F → Option (Int32 × (Nat → Nat → Int32) × (Nat → Nat → Int64) × zz_F)) (l1 : Int32) (l2 : Int32) (l3 : Int32) (l4 : Int32) (l5 : Int32) (l6 : Int32) (l7 : Int32) (l8 : Int32) (I : Nat → Nat → Int32) (J : Nat → Nat → Int64) (F : zz_F) : Option (Int32 × (Nat → Nat → Int32) × (Nat → Nat → Int64) × zz_F) := if l4 < 0 then (if ¬ ((zv_X12_spot 0 0 2) < 0 ∨ 507 ≤ (zv_X12_spot 0 0 2).toNatClampNeg) then (some (I 74 ((zv_X12_spot 0 0 2).toNatClampNeg), I, J, F)) else none) else (rec 79 0 l2 l3 l4 l3 0 0 0 I J F)
def zb_X12_shortestOf_79 (N : Nat) (rec : Nat → Int32 → Int32 → Int32 → Int32 → Int32 → Int32 → Int32 → Int32 → (Nat → Nat → Int32) → (Nat → Nat → Int64) → zz_F → Option (Int32 × (Nat → Nat → Int32) × (Nat → Nat → Int64) × zz_F)) (l1 : Int32) (l2 : Int32) (l3 : Int32) (l4 : Int32) (l5 : Int32) (l6 : Int32) (l7 : Int32) (l8 : Int32) (I : Nat → Nat → Int32) (J : Nat → Nat → Int64) (F : zz_F) : Option (Int32 × (Nat → Nat → Int32) × (Nat → Nat → Int64) × zz_F) := if l5 < 0 then (rec 71 0 l2 l3 (l4 + (-1)) 0 0 0 0 I J F) else (rec 87 0 l2 l3 l4 l5 0 0 0 I J F)
def zb_X12_shortestOf_87 (N : Nat) (rec : Nat → Int32 → Int32 → Int32 → Int32 → Int32 → Int32 → Int32 → Int32 → (Nat → Nat → Int32) → (Nat → Nat → Int64) → zz_F → Option (Int32 × (Nat → Nat → Int32) × (Nat → Nat → Int64) × zz_F)) (l1 : Int32) (l2 : Int32) (l3 : Int32) (l4 : Int32) (l5 : Int32) (l6 : Int32) (l7 : Int32) (l8 : Int32) (I : Nat → Nat → Int32) (J : Nat → Nat → Int64) (F : zz_F) : Option (Int32 × (Nat → Nat → Int32) × (Nat → Nat → Int64) × zz_F) := if 3 ≤ l6 then (rec 79 0 l2 l3 l4 (l5 + (-1)) 0 0 0 I J F) else (if ¬ l6 = 0 then (rec 103 0 l2 l3 l4 l5 l6 0 0 I J F) else (if l4 = 0 then (rec 285 0 l2 l3 l4 l5 l6 0 0 I J F) else (rec 103 0 l2 l3 l4 l5 l6 0 0 I J F)))
def zb_X12_shortestOf_103 (N : Nat) (rec : Nat → Int32 → Int32 → Int32 → Int32 → Int32 → Int32 → Int32 → Int32 → (Nat → Nat → Int32) → (Nat → Nat → Int64) → zz_F → Option (Int32 × (Nat → Nat → Int32) × (Nat → Nat → Int64) × zz_F)) (l1 : Int32) (l2 : Int32) (l3 : Int32) (l4 : Int32) (l5 : Int32) (l6 : Int32) (l7 : Int32) (l8 : Int32) (I : Nat → Nat → Int32) (J : Nat → Nat → Int64) (F : zz_F) : Option (Int32 × (Nat → Nat → Int32) × (Nat → Nat → Int64) × zz_F) := if ¬ l6 = 1 then (rec 117 0 l2 l3 l4 l5 l6 0 0 I J F) else (if ¬ l5 = 0 then (rec 117 0 l2 l3 l4 l5 l6 0 0 I J F) else (rec 285 0 l2 l3 l4 l5 l6 0 0 I J F))
def zb_X12_shortestOf_117 (N : Nat) (rec : Nat → Int32 → Int32 → Int32 → Int32 → Int32 → Int32 → Int32 → Int32 → (Nat → Nat → Int32) → (Nat → Nat → Int64) → zz_F → Option (Int32 × (Nat → Nat → Int32) × (Nat → Nat → Int64) × zz_F)) (l1 : Int32) (l2 : Int32) (l3 : Int32) (l4 : Int32) (l5 : Int32) (l6 : Int32) (l7 : Int32) (l8 : Int32) (I : Nat → Nat → Int32) (J : Nat → Nat → Int64) (F : zz_F) : Option (Int32 × (Nat → Nat → Int32) × (Nat → Nat → Int64) × zz_F) := if ¬ l6 = 0 then (if ¬ l6 = 1 then (if ¬ l4 = l2 then (rec 177 0 l2 l3 l4 l5 l6 (I 53 13) 0 I J F) else (if ¬ l5 = l3 then (rec 177 0 l2 l3 l4 l5 l6 (I 53 13) 0 I J F) else (if l2 ≤ l4 then (rec 225 0 l2 l3 l4 l5 l6 (I 53 13) 0 I J F) else (if ¬ (l4 < 0 ∨ 12 ≤ l4.toNatClampNeg) then ((zf_X12_stepTo N (I 53 13) (I 75 l4.toNatClampNeg) I J F).bind fun r6 => if ¬ ((zv_X12_spot (l4 + 1) l5 0) < 0 ∨ 507 ≤ (zv_X12_spot (l4 + 1) l5 0).toNatClampNeg) then (rec 225 0 l2 l3 l4 l5 l6 (I 53 13) (zz_min 0 (r6.1 + (r6.2.1 74 ((zv_X12_spot (l4 + 1) l5 0).toNatClampNeg)))) r6.2.1 r6.2.2.1 r6.2.2.2) else none) else none)))) else (if ¬ ((l5 - 1) < 0 ∨ 12 ≤ (l5 - 1).toNatClampNeg) then (if ¬ l4 = l2 then (rec 177 0 l2 l3 l4 l5 l6 (I 76 ((l5 - 1).toNatClampNeg)) 0 I J F) else (if ¬ l5 = l3 then (rec 177 0 l2 l3 l4 l5 l6 (I 76 ((l5 - 1).toNatClampNeg)) 0 I J F) else (if l2 ≤ l4 then (rec 225 0 l2 l3 l4 l5 l6 (I 76 ((l5 - 1).toNatClampNeg)) 0 I J F) else (if ¬ (l4 < 0 ∨ 12 ≤ l4.toNatClampNeg) then ((zf_X12_stepTo N (I 76 ((l5 - 1).toNatClampNeg)) (I 75 l4.toNatClampNeg) I J F).bind fun r10 => if ¬ ((zv_X12_spot (l4 + 1) l5 0) < 0 ∨ 507 ≤ (zv_X12_spot (l4 + 1) l5 0).toNatClampNeg) then (rec 225 0 l2 l3 l4 l5 l6 (I 76 ((l5 - 1).toNatClampNeg)) (zz_min 0 (r10.1 + (r10.2.1 74 ((zv_X12_spot (l4 + 1) l5 0).toNatClampNeg)))) r10.2.1 r10.2.2.1 r10.2.2.2) else none) else none)))) else none)) else (if ¬ ((l4 - 1) < 0 ∨ 12 ≤ (l4 - 1).toNatClampNeg) then (if ¬ l4 = l2 then (rec 177 0 l2 l3 l4 l5 l6 (I 75 ((l4 - 1).toNatClampNeg)) 0 I J F) else (if ¬ l5 = l3 then (rec 177 0 l2 l3 l4 l5 l6 (I 75 ((l4 - 1).toNatClampNeg)) 0 I J F) else (if l2 ≤ l4 then (rec 225 0 l2 l3 l4 l5 l6 (I 75 ((l4 - 1).toNatClampNeg)) 0 I J F) else (if ¬ (l4 < 0 ∨ 12 ≤ l4.toNatClampNeg) then ((zf_X12_stepTo N (I 75 ((l4 - 1).toNatClampNeg)) (I 75 l4.toNatClampNeg) I J F).bind fun r14 => if ¬ ((zv_X12_spot (l4 + 1) l5 0) < 0 ∨ 507 ≤ (zv_X12_spot (l4 + 1) l5 0).toNatClampNeg) then (rec 225 0 l2 l3 l4 l5 l6 (I 75 ((l4 - 1).toNatClampNeg)) (zz_min 0 (r14.1 + (r14.2.1 74 ((zv_X12_spot (l4 + 1) l5 0).toNatClampNeg)))) r14.2.1 r14.2.2.1 r14.2.2.2) else none) else none)))) else none)
def zb_X12_shortestOf_177 (N : Nat) (rec : Nat → Int32 → Int32 → Int32 → Int32 → Int32 → Int32 → Int32 → Int32 → (Nat → Nat → Int32) → (Nat → Nat → Int64) → zz_F → Option (Int32 × (Nat → Nat → Int32) × (Nat → Nat → Int64) × zz_F)) (l1 : Int32) (l2 : Int32) (l3 : Int32) (l4 : Int32) (l5 : Int32) (l6 : Int32) (l7 : Int32) (l8 : Int32) (I : Nat → Nat → Int32) (J : Nat → Nat → Int64) (F : zz_F) : Option (Int32 × (Nat → Nat → Int32) × (Nat → Nat → Int64) × zz_F) := if l2 ≤ l4 then (rec 225 0 l2 l3 l4 l5 l6 l7 1000000 I J F) else (if ¬ (l4 < 0 ∨ 12 ≤ l4.toNatClampNeg) then ((zf_X12_stepTo N l7 (I 75 l4.toNatClampNeg) I J F).bind fun r21 => if ¬ ((zv_X12_spot (l4 + 1) l5 0) < 0 ∨ 507 ≤ (zv_X12_spot (l4 + 1) l5 0).toNatClampNeg) then (rec 225 0 l2 l3 l4 l5 l6 l7 (zz_min 1000000 (r21.1 + (r21.2.1 74 ((zv_X12_spot (l4 + 1) l5 0).toNatClampNeg)))) r21.2.1 r21.2.2.1 r21.2.2.2) else none) else none)
def zb_X12_shortestOf_225 (N : Nat) (rec : Nat → Int32 → Int32 → Int32 → Int32 → Int32 → Int32 → Int32 → Int32 → (Nat → Nat → Int32) → (Nat → Nat → Int64) → zz_F → Option (Int32 × (Nat → Nat → Int32) × (Nat → Nat → Int64) × zz_F)) (l1 : Int32) (l2 : Int32) (l3 : Int32) (l4 : Int32) (l5 : Int32) (l6 : Int32) (l7 : Int32) (l8 : Int32) (I : Nat → Nat → Int32) (J : Nat → Nat → Int64) (F : zz_F) : Option (Int32 × (Nat → Nat → Int32) × (Nat → Nat → Int64) × zz_F) := if l3 ≤ l5 then (rec 268 0 l2 l3 l4 l5 l6 0 l8 I J F) else (if ¬ (l5 < 0 ∨ 12 ≤ l5.toNatClampNeg) then ((zf_X12_stepTo N l7 (I 76 l5.toNatClampNeg) I J F).bind fun r17 => if ¬ ((zv_X12_spot l4 (l5 + 1) 1) < 0 ∨ 507 ≤ (zv_X12_spot l4 (l5 + 1) 1).toNatClampNeg) then (rec 268 0 l2 l3 l4 l5 l6 0 (zz_min l8 (r17.1 + (r17.2.1 74 ((zv_X12_spot l4 (l5 + 1) 1).toNatClampNeg)))) r17.2.1 r17.2.2.1 r17.2.2.2) else none) else none)
def zb_X12_shortestOf_268 (N : Nat) (rec : Nat → Int32 → Int32 → Int32 → Int32 → Int32 → Int32 → Int32 → Int32 → (Nat → Nat → Int32) → (Nat → Nat → Int64) → zz_F → Option (Int32 × (Nat → Nat → Int32) × (Nat → Nat → Int64) × zz_F)) (l1 : Int32) (l2 : Int32) (l3 : Int32) (l4 : Int32) (l5 : Int32) (l6 : Int32) (l7 : Int32) (l8 : Int32) (I : Nat → Nat → Int32) (J : Nat → Nat → Int64) (F : zz_F) : Option (Int32 × (Nat → Nat → Int32) × (Nat → Nat → Int64) × zz_F) := if ¬ ((zv_X12_spot l4 l5 l6) < 0 ∨ 507 ≤ (zv_X12_spot l4 l5 l6).toNatClampNeg) then (rec 285 0 l2 l3 l4 l5 l6 0 0 (zz_u I 74 ((zv_X12_spot l4 l5 l6).toNatClampNeg) l8) J F) else none
def zb_X12_shortestOf_285 (N : Nat) (rec : Nat → Int32 → Int32 → Int32 → Int32 → Int32 → Int32 → Int32 → Int32 → (Nat → Nat → Int32) → (Nat → Nat → Int64) → zz_F → Option (Int32 × (Nat → Nat → Int32) × (Nat → Nat → Int64) × zz_F)) (l1 : Int32) (l2 : Int32) (l3 : Int32) (l4 : Int32) (l5 : Int32) (l6 : Int32) (l7 : Int32) (l8 : Int32) (I : Nat → Nat → Int32) (J : Nat → Nat → Int64) (F : zz_F) : Option (Int32 × (Nat → Nat → Int32) × (Nat → Nat → Int64) × zz_F) := rec 87 0 l2 l3 l4 l5 (l6 + 1) 0 0 I J F
def zl_X12_shortestOf (N : Nat) : Nat → Nat → Int32 → Int32 → Int32 → Int32 → Int32 → Int32 → Int32 → Int32 → (Nat → Nat → Int32) → (Nat → Nat → Int64) → zz_F → Option (Int32 × (Nat → Nat → Int32) × (Nat → Nat → Int64) × zz_F)
  | 0 => fun _ _ _ _ _ _ _ _ _ _ _ _ => none
  | n + 1 => fun pc l1 l2 l3 l4 l5 l6 l7 l8 I J F => if pc = 0 then zb_X12_shortestOf_0 N (zl_X12_shortestOf N n) l1 l2 l3 l4 l5 l6 l7 l8 I J F else (if pc = 7 then zb_X12_shortestOf_7 N (zl_X12_shortestOf N n) l1 l2 l3 l4 l5 l6 l7 l8 I J F else (if pc = 62 then zb_X12_shortestOf_62 N (zl_X12_shortestOf N n) l1 l2 l3 l4 l5 l6 l7 l8 I J F else (if pc = 71 then zb_X12_shortestOf_71 N (zl_X12_shortestOf N n) l1 l2 l3 l4 l5 l6 l7 l8 I J F else (if pc = 79 then zb_X12_shortestOf_79 N (zl_X12_shortestOf N n) l1 l2 l3 l4 l5 l6 l7 l8 I J F else (if pc = 87 then zb_X12_shortestOf_87 N (zl_X12_shortestOf N n) l1 l2 l3 l4 l5 l6 l7 l8 I J F else (if pc = 103 then zb_X12_shortestOf_103 N (zl_X12_shortestOf N n) l1 l2 l3 l4 l5 l6 l7 l8 I J F else (if pc = 117 then zb_X12_shortestOf_117 N (zl_X12_shortestOf N n) l1 l2 l3 l4 l5 l6 l7 l8 I J F else (if pc = 177 then zb_X12_shortestOf_177 N (zl_X12_shortestOf N n) l1 l2 l3 l4 l5 l6 l7 l8 I J F else (if pc = 225 then zb_X12_shortestOf_225 N (zl_X12_shortestOf N n) l1 l2 l3 l4 l5 l6 l7 l8 I J F else (if pc = 268 then zb_X12_shortestOf_268 N (zl_X12_shortestOf N n) l1 l2 l3 l4 l5 l6 l7 l8 I J F else (if pc = 285 then zb_X12_shortestOf_285 N (zl_X12_shortestOf N n) l1 l2 l3 l4 l5 l6 l7 l8 I J F else none)))))))))))
theorem ze_X12_shortestOf_0 (N : Nat) (n : Nat) (l1 : Int32) (l2 : Int32) (l3 : Int32) (l4 : Int32) (l5 : Int32) (l6 : Int32) (l7 : Int32) (l8 : Int32) (I : Nat → Nat → Int32) (J : Nat → Nat → Int64) (F : zz_F) : zl_X12_shortestOf N (n+1) 0 l1 l2 l3 l4 l5 l6 l7 l8 I J F = zb_X12_shortestOf_0 N (zl_X12_shortestOf N n) l1 l2 l3 l4 l5 l6 l7 l8 I J F := by
  show (if 0 = 0 then zb_X12_shortestOf_0 N (zl_X12_shortestOf N n) l1 l2 l3 l4 l5 l6 l7 l8 I J F else (if 0 = 7 then zb_X12_shortestOf_7 N (zl_X12_shortestOf N n) l1 l2 l3 l4 l5 l6 l7 l8 I J F else (if 0 = 62 then zb_X12_shortestOf_62 N (zl_X12_shortestOf N n) l1 l2 l3 l4 l5 l6 l7 l8 I J F else (if 0 = 71 then zb_X12_shortestOf_71 N (zl_X12_shortestOf N n) l1 l2 l3 l4 l5 l6 l7 l8 I J F else (if 0 = 79 then zb_X12_shortestOf_79 N (zl_X12_shortestOf N n) l1 l2 l3 l4 l5 l6 l7 l8 I J F else (if 0 = 87 then zb_X12_shortestOf_87 N (zl_X12_shortestOf N n) l1 l2 l3 l4 l5 l6 l7 l8 I J F else (if 0 = 103 then zb_X12_shortestOf_103 N (zl_X12_shortestOf N n) l1 l2 l3 l4 l5 l6 l7 l8 I J F else (if 0 = 117 then zb_X12_shortestOf_117 N (zl_X12_shortestOf N n) l1 l2 l3 l4 l5 l6 l7 l8 I J F else (if 0 = 177 then zb_X12_shortestOf_177 N (zl_X12_shortestOf N n) l1 l2 l3 l4 l5 l6 l7 l8 I J F else (if 0 = 225 then zb_X12_shortestOf_225 N (zl_X12_shortestOf N n) l1 l2 l3 l4 l5 l6 l7 l8 I J F else (if 0 = 268 then zb_X12_shortestOf_268 N (zl_X12_shortestOf N n) l1 l2 l3 l4 l5 l6 l7 l8 I J F else (if 0 = 285 then zb_X12_shortestOf_285 N (zl_X12_shortestOf N n) l1 l2 l3 l4 l5 l6 l7 l8 I J F else none)))))))))))) = _
  rw [if_pos rfl]
theorem ze_X12_shortestOf_7 (N : Nat) (n : Nat) (l1 : Int32) (l2 : Int32) (l3 : Int32) (l4 : Int32) (l5 : Int32) (l6 : Int32) (l7 : Int32) (l8 : Int32) (I : Nat → Nat → Int32) (J : Nat → Nat → Int64) (F : zz_F) : zl_X12_shortestOf N (n+1) 7 l1 l2 l3 l4 l5 l6 l7 l8 I J F = zb_X12_shortestOf_7 N (zl_X12_shortestOf N n) l1 l2 l3 l4 l5 l6 l7 l8 I J F := by
  show (if 7 = 0 then zb_X12_shortestOf_0 N (zl_X12_shortestOf N n) l1 l2 l3 l4 l5 l6 l7 l8 I J F else (if 7 = 7 then zb_X12_shortestOf_7 N (zl_X12_shortestOf N n) l1 l2 l3 l4 l5 l6 l7 l8 I J F else (if 7 = 62 then zb_X12_shortestOf_62 N (zl_X12_shortestOf N n) l1 l2 l3 l4 l5 l6 l7 l8 I J F else (if 7 = 71 then zb_X12_shortestOf_71 N (zl_X12_shortestOf N n) l1 l2 l3 l4 l5 l6 l7 l8 I J F else (if 7 = 79 then zb_X12_shortestOf_79 N (zl_X12_shortestOf N n) l1 l2 l3 l4 l5 l6 l7 l8 I J F else (if 7 = 87 then zb_X12_shortestOf_87 N (zl_X12_shortestOf N n) l1 l2 l3 l4 l5 l6 l7 l8 I J F else (if 7 = 103 then zb_X12_shortestOf_103 N (zl_X12_shortestOf N n) l1 l2 l3 l4 l5 l6 l7 l8 I J F else (if 7 = 117 then zb_X12_shortestOf_117 N (zl_X12_shortestOf N n) l1 l2 l3 l4 l5 l6 l7 l8 I J F else (if 7 = 177 then zb_X12_shortestOf_177 N (zl_X12_shortestOf N n) l1 l2 l3 l4 l5 l6 l7 l8 I J F else (if 7 = 225 then zb_X12_shortestOf_225 N (zl_X12_shortestOf N n) l1 l2 l3 l4 l5 l6 l7 l8 I J F else (if 7 = 268 then zb_X12_shortestOf_268 N (zl_X12_shortestOf N n) l1 l2 l3 l4 l5 l6 l7 l8 I J F else (if 7 = 285 then zb_X12_shortestOf_285 N (zl_X12_shortestOf N n) l1 l2 l3 l4 l5 l6 l7 l8 I J F else none)))))))))))) = _
  rw [if_neg (by decide), if_pos rfl]
theorem ze_X12_shortestOf_62 (N : Nat) (n : Nat) (l1 : Int32) (l2 : Int32) (l3 : Int32) (l4 : Int32) (l5 : Int32) (l6 : Int32) (l7 : Int32) (l8 : Int32) (I : Nat → Nat → Int32) (J : Nat → Nat → Int64) (F : zz_F) : zl_X12_shortestOf N (n+1) 62 l1 l2 l3 l4 l5 l6 l7 l8 I J F = zb_X12_shortestOf_62 N (zl_X12_shortestOf N n) l1 l2 l3 l4 l5 l6 l7 l8 I J F := by
  show (if 62 = 0 then zb_X12_shortestOf_0 N (zl_X12_shortestOf N n) l1 l2 l3 l4 l5 l6 l7 l8 I J F else (if 62 = 7 then zb_X12_shortestOf_7 N (zl_X12_shortestOf N n) l1 l2 l3 l4 l5 l6 l7 l8 I J F else (if 62 = 62 then zb_X12_shortestOf_62 N (zl_X12_shortestOf N n) l1 l2 l3 l4 l5 l6 l7 l8 I J F else (if 62 = 71 then zb_X12_shortestOf_71 N (zl_X12_shortestOf N n) l1 l2 l3 l4 l5 l6 l7 l8 I J F else (if 62 = 79 then zb_X12_shortestOf_79 N (zl_X12_shortestOf N n) l1 l2 l3 l4 l5 l6 l7 l8 I J F else (if 62 = 87 then zb_X12_shortestOf_87 N (zl_X12_shortestOf N n) l1 l2 l3 l4 l5 l6 l7 l8 I J F else (if 62 = 103 then zb_X12_shortestOf_103 N (zl_X12_shortestOf N n) l1 l2 l3 l4 l5 l6 l7 l8 I J F else (if 62 = 117 then zb_X12_shortestOf_117 N (zl_X12_shortestOf N n) l1 l2 l3 l4 l5 l6 l7 l8 I J F else (if 62 = 177 then zb_X12_shortestOf_177 N (zl_X12_shortestOf N n) l1 l2 l3 l4 l5 l6 l7 l8 I J F else (if 62 = 225 then zb_X12_shortestOf_225 N (zl_X12_shortestOf N n) l1 l2 l3 l4 l5 l6 l7 l8 I J F else (if 62 = 268 then zb_X12_shortestOf_268 N (zl_X12_shortestOf N n) l1 l2 l3 l4 l5 l6 l7 l8 I J F else (if 62 = 285 then zb_X12_shortestOf_285 N (zl_X12_shortestOf N n) l1 l2 l3 l4 l5 l6 l7 l8 I J F else none)))))))))))) = _
  rw [if_neg (by decide), if_neg (by decide), if_pos rfl]
theorem ze_X12_shortestOf_71 (N : Nat) (n : Nat) (l1 : Int32) (l2 : Int32) (l3 : Int32) (l4 : Int32) (l5 : Int32) (l6 : Int32) (l7 : Int32) (l8 : Int32) (I : Nat → Nat → Int32) (J : Nat → Nat → Int64) (F : zz_F) : zl_X12_shortestOf N (n+1) 71 l1 l2 l3 l4 l5 l6 l7 l8 I J F = zb_X12_shortestOf_71 N (zl_X12_shortestOf N n) l1 l2 l3 l4 l5 l6 l7 l8 I J F := by
  show (if 71 = 0 then zb_X12_shortestOf_0 N (zl_X12_shortestOf N n) l1 l2 l3 l4 l5 l6 l7 l8 I J F else (if 71 = 7 then zb_X12_shortestOf_7 N (zl_X12_shortestOf N n) l1 l2 l3 l4 l5 l6 l7 l8 I J F else (if 71 = 62 then zb_X12_shortestOf_62 N (zl_X12_shortestOf N n) l1 l2 l3 l4 l5 l6 l7 l8 I J F else (if 71 = 71 then zb_X12_shortestOf_71 N (zl_X12_shortestOf N n) l1 l2 l3 l4 l5 l6 l7 l8 I J F else (if 71 = 79 then zb_X12_shortestOf_79 N (zl_X12_shortestOf N n) l1 l2 l3 l4 l5 l6 l7 l8 I J F else (if 71 = 87 then zb_X12_shortestOf_87 N (zl_X12_shortestOf N n) l1 l2 l3 l4 l5 l6 l7 l8 I J F else (if 71 = 103 then zb_X12_shortestOf_103 N (zl_X12_shortestOf N n) l1 l2 l3 l4 l5 l6 l7 l8 I J F else (if 71 = 117 then zb_X12_shortestOf_117 N (zl_X12_shortestOf N n) l1 l2 l3 l4 l5 l6 l7 l8 I J F else (if 71 = 177 then zb_X12_shortestOf_177 N (zl_X12_shortestOf N n) l1 l2 l3 l4 l5 l6 l7 l8 I J F else (if 71 = 225 then zb_X12_shortestOf_225 N (zl_X12_shortestOf N n) l1 l2 l3 l4 l5 l6 l7 l8 I J F else (if 71 = 268 then zb_X12_shortestOf_268 N (zl_X12_shortestOf N n) l1 l2 l3 l4 l5 l6 l7 l8 I J F else (if 71 = 285 then zb_X12_shortestOf_285 N (zl_X12_shortestOf N n) l1 l2 l3 l4 l5 l6 l7 l8 I J F else none)))))))))))) = _
  rw [if_neg (by decide), if_neg (by decide), if_neg (by decide), if_pos rfl]
theorem ze_X12_shortestOf_79 (N : Nat) (n : Nat) (l1 : Int32) (l2 : Int32) (l3 : Int32) (l4 : Int32) (l5 : Int32) (l6 : Int32) (l7 : Int32) (l8 : Int32) (I : Nat → Nat → Int32) (J : Nat → Nat → Int64) (F : zz_F) : zl_X12_shortestOf N (n+1) 79 l1 l2 l3 l4 l5 l6 l7 l8 I J F = zb_X12_shortestOf_79 N (zl_X12_shortestOf N n) l1 l2 l3 l4 l5 l6 l7 l8 I J F := by
  show (if 79 = 0 then zb_X12_shortestOf_0 N (zl_X12_shortestOf N n) l1 l2 l3 l4 l5 l6 l7 l8 I J F else (if 79 = 7 then zb_X12_shortestOf_7 N (zl_X12_shortestOf N n) l1 l2 l3 l4 l5 l6 l7 l8 I J F else (if 79 = 62 then zb_X12_shortestOf_62 N (zl_X12_shortestOf N n) l1 l2 l3 l4 l5 l6 l7 l8 I J F else (if 79 = 71 then zb_X12_shortestOf_71 N (zl_X12_shortestOf N n) l1 l2 l3 l4 l5 l6 l7 l8 I J F else (if 79 = 79 then zb_X12_shortestOf_79 N (zl_X12_shortestOf N n) l1 l2 l3 l4 l5 l6 l7 l8 I J F else (if 79 = 87 then zb_X12_shortestOf_87 N (zl_X12_shortestOf N n) l1 l2 l3 l4 l5 l6 l7 l8 I J F else (if 79 = 103 then zb_X12_shortestOf_103 N (zl_X12_shortestOf N n) l1 l2 l3 l4 l5 l6 l7 l8 I J F else (if 79 = 117 then zb_X12_shortestOf_117 N (zl_X12_shortestOf N n) l1 l2 l3 l4 l5 l6 l7 l8 I J F else (if 79 = 177 then zb_X12_shortestOf_177 N (zl_X12_shortestOf N n) l1 l2 l3 l4 l5 l6 l7 l8 I J F else (if 79 = 225 then zb_X12_shortestOf_225 N (zl_X12_shortestOf N n) l1 l2 l3 l4 l5 l6 l7 l8 I J F else (if 79 = 268 then zb_X12_shortestOf_268 N (zl_X12_shortestOf N n) l1 l2 l3 l4 l5 l6 l7 l8 I J F else (if 79 = 285 then zb_X12_shortestOf_285 N (zl_X12_shortestOf N n) l1 l2 l3 l4 l5 l6 l7 l8 I J F else none)))))))))))) = _
  rw [if_neg (by decide), if_neg (by decide), if_neg (by decide), if_neg (by decide), if_pos rfl]
theorem ze_X12_shortestOf_87 (N : Nat) (n : Nat) (l1 : Int32) (l2 : Int32) (l3 : Int32) (l4 : Int32) (l5 : Int32) (l6 : Int32) (l7 : Int32) (l8 : Int32) (I : Nat → Nat → Int32) (J : Nat → Nat → Int64) (F : zz_F) : zl_X12_shortestOf N (n+1) 87 l1 l2 l3 l4 l5 l6 l7 l8 I J F = zb_X12_shortestOf_87 N (zl_X12_shortestOf N n) l1 l2 l3 l4 l5 l6 l7 l8 I J F := by
  show (if 87 = 0 then zb_X12_shortestOf_0 N (zl_X12_shortestOf N n) l1 l2 l3 l4 l5 l6 l7 l8 I J F else (if 87 = 7 then zb_X12_shortestOf_7 N (zl_X12_shortestOf N n) l1 l2 l3 l4 l5 l6 l7 l8 I J F else (if 87 = 62 then zb_X12_shortestOf_62 N (zl_X12_shortestOf N n) l1 l2 l3 l4 l5 l6 l7 l8 I J F else (if 87 = 71 then zb_X12_shortestOf_71 N (zl_X12_shortestOf N n) l1 l2 l3 l4 l5 l6 l7 l8 I J F else (if 87 = 79 then zb_X12_shortestOf_79 N (zl_X12_shortestOf N n) l1 l2 l3 l4 l5 l6 l7 l8 I J F else (if 87 = 87 then zb_X12_shortestOf_87 N (zl_X12_shortestOf N n) l1 l2 l3 l4 l5 l6 l7 l8 I J F else (if 87 = 103 then zb_X12_shortestOf_103 N (zl_X12_shortestOf N n) l1 l2 l3 l4 l5 l6 l7 l8 I J F else (if 87 = 117 then zb_X12_shortestOf_117 N (zl_X12_shortestOf N n) l1 l2 l3 l4 l5 l6 l7 l8 I J F else (if 87 = 177 then zb_X12_shortestOf_177 N (zl_X12_shortestOf N n) l1 l2 l3 l4 l5 l6 l7 l8 I J F else (if 87 = 225 then zb_X12_shortestOf_225 N (zl_X12_shortestOf N n) l1 l2 l3 l4 l5 l6 l7 l8 I J F else (if 87 = 268 then zb_X12_shortestOf_268 N (zl_X12_shortestOf N n) l1 l2 l3 l4 l5 l6 l7 l8 I J F else (if 87 = 285 then zb_X12_shortestOf_285 N (zl_X12_shortestOf N n) l1 l2 l3 l4 l5 l6 l7 l8 I J F else none)))))))))))) = _
  rw [if_neg (by decide), if_neg (by decide), if_neg (by decide), if_neg (by decide), if_neg (by decide), if_pos rfl]
theorem ze_X12_shortestOf_103 (N : Nat) (n : Nat) (l1 : Int32) (l2 : Int32) (l3 : Int32) (l4 : Int32) (l5 : Int32) (l6 : Int32) (l7 : Int32) (l8 : Int32) (I : Nat → Nat → Int32) (J : Nat → Nat → Int64) (F : zz_F) : zl_X12_shortestOf N (n+1) 103 l1 l2 l3 l4 l5 l6 l7 l8 I J F = zb_X12_shortestOf_103 N (zl_X12_shortestOf N n) l1 l2 l3 l4 l5 l6 l7 l8 I J F := by
  show (if 103 = 0 then zb_X12_shortestOf_0 N (zl_X12_shortestOf N n) l1 l2 l3 l4 l5 l6 l7 l8 I J F else (if 103 = 7 then zb_X12_shortestOf_7 N (zl_X12_shortestOf N n) l1 l2 l3 l4 l5 l6 l7 l8 I J F else (if 103 = 62 then zb_X12_shortestOf_62 N (zl_X12_shortestOf N n) l1 l2 l3 l4 l5 l6 l7 l8 I J F else (if 103 = 71 then zb_X12_shortestOf_71 N (zl_X12_shortestOf N n) l1 l2 l3 l4 l5 l6 l7 l8 I J F else (if 103 = 79 then zb_X12_shortestOf_79 N (zl_X12_shortestOf N n) l1 l2 l3 l4 l5 l6 l7 l8 I J F else (if 103 = 87 then zb_X12_shortestOf_87 N (zl_X12_shortestOf N n) l1 l2 l3 l4 l5 l6 l7 l8 I J F else (if 103 = 103 then zb_X12_shortestOf_103 N (zl_X12_shortestOf N n) l1 l2 l3 l4 l5 l6 l7 l8 I J F else (if 103 = 117 then zb_X12_shortestOf_117 N (zl_X12_shortestOf N n) l1 l2 l3 l4 l5 l6 l7 l8 I J F else (if 103 = 177 then zb_X12_shortestOf_177 N (zl_X12_shortestOf N n) l1 l2 l3 l4 l5 l6 l7 l8 I J F else (if 103 = 225 then zb_X12_shortestOf_225 N (zl_X12_shortestOf N n) l1 l2 l3 l4 l5 l6 l7 l8 I J F else (if 103 = 268 then zb_X12_shortestOf_268 N (zl_X12_shortestOf N n) l1 l2 l3 l4 l5 l6 l7 l8 I J F else (if 103 = 285 then zb_X12_shortestOf_285 N (zl_X12_shortestOf N n) l1 l2 l3 l4 l5 l6 l7 l8 I J F else none)))))))))))) = _
  rw [if_neg (by decide), if_neg (by decide), if_neg (by decide), if_neg (by decide), if_neg (by decide), if_neg (by decide), if_pos rfl]
theorem ze_X12_shortestOf_117 (N : Nat) (n : Nat) (l1 : Int32) (l2 : Int32) (l3 : Int32) (l4 : Int32) (l5 : Int32) (l6 : Int32) (l7 : Int32) (l8 : Int32) (I : Nat → Nat → Int32) (J : Nat → Nat → Int64) (F : zz_F) : zl_X12_shortestOf N (n+1) 117 l1 l2 l3 l4 l5 l6 l7 l8 I J F = zb_X12_shortestOf_117 N (zl_X12_shortestOf N n) l1 l2 l3 l4 l5 l6 l7 l8 I J F := by
  show (if 117 = 0 then zb_X12_shortestOf_0 N (zl_X12_shortestOf N n) l1 l2 l3 l4 l5 l6 l7 l8 I J F else (if 117 = 7 then zb_X12_shortestOf_7 N (zl_X12_shortestOf N n) l1 l2 l3 l4 l5 l6 l7 l8 I J F else (if 117 = 62 then zb_X12_shortestOf_62 N (zl_X12_shortestOf N n) l1 l2 l3 l4 l5 l6 l7 l8 I J F else (if 117 = 71 then zb_X12_shortestOf_71 N (zl_X12_shortestOf N n) l1 l2 l3 l4 l5 l6 l7 l8 I J F else (if 117 = 79 then zb_X12_shortestOf_79 N (zl_X12_shortestOf N n) l1 l2 l3 l4 l5 l6 l7 l8 I J F else (if 117 = 87 then zb_X12_shortestOf_87 N (zl_X12_shortestOf N n) l1 l2 l3 l4 l5 l6 l7 l8 I J F else (if 117 = 103 then zb_X12_shortestOf_103 N (zl_X12_shortestOf N n) l1 l2 l3 l4 l5 l6 l7 l8 I J F else (if 117 = 117 then zb_X12_shortestOf_117 N (zl_X12_shortestOf N n) l1 l2 l3 l4 l5 l6 l7 l8 I J F else (if 117 = 177 then zb_X12_shortestOf_177 N (zl_X12_shortestOf N n) l1 l2 l3 l4 l5 l6 l7 l8 I J F else (if 117 = 225 then zb_X12_shortestOf_225 N (zl_X12_shortestOf N n) l1 l2 l3 l4 l5 l6 l7 l8 I J F else (if 117 = 268 then zb_X12_shortestOf_268 N (zl_X12_shortestOf N n) l1 l2 l3 l4 l5 l6 l7 l8 I J F else (if 117 = 285 then zb_X12_shortestOf_285 N (zl_X12_shortestOf N n) l1 l2 l3 l4 l5 l6 l7 l8 I J F else none)))))))))))) = _
  rw [if_neg (by decide), if_neg (by decide), if_neg (by decide), if_neg (by decide), if_neg (by decide), if_neg (by decide), if_neg (by decide), if_pos rfl]
theorem ze_X12_shortestOf_177 (N : Nat) (n : Nat) (l1 : Int32) (l2 : Int32) (l3 : Int32) (l4 : Int32) (l5 : Int32) (l6 : Int32) (l7 : Int32) (l8 : Int32) (I : Nat → Nat → Int32) (J : Nat → Nat → Int64) (F : zz_F) : zl_X12_shortestOf N (n+1) 177 l1 l2 l3 l4 l5 l6 l7 l8 I J F = zb_X12_shortestOf_177 N (zl_X12_shortestOf N n) l1 l2 l3 l4 l5 l6 l7 l8 I J F := by
  show (if 177 = 0 then zb_X12_shortestOf_0 N (zl_X12_shortestOf N n) l1 l2 l3 l4 l5 l6 l7 l8 I J F else (if 177 = 7 then zb_X12_shortestOf_7 N (zl_X12_shortestOf N n) l1 l2 l3 l4 l5 l6 l7 l8 I J F else (if 177 = 62 then zb_X12_shortestOf_62 N (zl_X12_shortestOf N n) l1 l2 l3 l4 l5 l6 l7 l8 I J F else (if 177 = 71 then zb_X12_shortestOf_71 N (zl_X12_shortestOf N n) l1 l2 l3 l4 l5 l6 l7 l8 I J F else (if 177 = 79 then zb_X12_shortestOf_79 N (zl_X12_shortestOf N n) l1 l2 l3 l4 l5 l6 l7 l8 I J F else (if 177 = 87 then zb_X12_shortestOf_87 N (zl_X12_shortestOf N n) l1 l2 l3 l4 l5 l6 l7 l8 I J F else (if 177 = 103 then zb_X12_shortestOf_103 N (zl_X12_shortestOf N n) l1 l2 l3 l4 l5 l6 l7 l8 I J F else (if 177 = 117 then zb_X12_shortestOf_117 N (zl_X12_shortestOf N n) l1 l2 l3 l4 l5 l6 l7 l8 I J F else (if 177 = 177 then zb_X12_shortestOf_177 N (zl_X12_shortestOf N n) l1 l2 l3 l4 l5 l6 l7 l8 I J F else (if 177 = 225 then zb_X12_shortestOf_225 N (zl_X12_shortestOf N n) l1 l2 l3 l4 l5 l6 l7 l8 I J F else (if 177 = 268 then zb_X12_shortestOf_268 N (zl_X12_shortestOf N n) l1 l2 l3 l4 l5 l6 l7 l8 I J F else (if 177 = 285 then zb_X12_shortestOf_285 N (zl_X12_shortestOf N n) l1 l2 l3 l4 l5 l6 l7 l8 I J F else none)))))))))))) = _
  rw [if_neg (by decide), if_neg (by decide), if_neg (by decide), if_neg (by decide), if_neg (by decide), if_neg (by decide), if_neg (by decide), if_neg (by decide), if_pos rfl]
theorem ze_X12_shortestOf_225 (N : Nat) (n : Nat) (l1 : Int32) (l2 : Int32) (l3 : Int32) (l4 : Int32) (l5 : Int32) (l6 : Int32) (l7 : Int32) (l8 : Int32) (I : Nat → Nat → Int32) (J : Nat → Nat → Int64) (F : zz_F) : zl_X12_shortestOf N (n+1) 225 l1 l2 l3 l4 l5 l6 l7 l8 I J F = zb_X12_shortestOf_225 N (zl_X12_shortestOf N n) l1 l2 l3 l4 l5 l6 l7 l8 I J F := by
  show (if 225 = 0 then zb_X12_shortestOf_0 N (zl_X12_shortestOf N n) l1 l2 l3 l4 l5 l6 l7 l8 I J F else (if 225 = 7 then zb_X12_shortestOf_7 N (zl_X12_shortestOf N n) l1 l2 l3 l4 l5 l6 l7 l8 I J F else (if 225 = 62 then zb_X12_shortestOf_62 N (zl_X12_shortestOf N n) l1 l2 l3 l4 l5 l6 l7 l8 I J F else (if 225 = 71 then zb_X12_shortestOf_71 N (zl_X12_shortestOf N n) l1 l2 l3 l4 l5 l6 l7 l8 I J F else (if 225 = 79 then zb_X12_shortestOf_79 N (zl_X12_shortestOf N n) l1 l2 l3 l4 l5 l6 l7 l8 I J F else (if 225 = 87 then zb_X12_shortestOf_87 N (zl_X12_shortestOf N n) l1 l2 l3 l4 l5 l6 l7 l8 I J F else (if 225 = 103 then zb_X12_shortestOf_103 N (zl_X12_shortestOf N n) l1 l2 l3 l4 l5 l6 l7 l8 I J F else (if 225 = 117 then zb_X12_shortestOf_117 N (zl_X12_shortestOf N n) l1 l2 l3 l4 l5 l6 l7 l8 I J F else (if 225 = 177 then zb_X12_shortestOf_177 N (zl_X12_shortestOf N n) l1 l2 l3 l4 l5 l6 l7 l8 I J F else (if 225 = 225 then zb_X12_shortestOf_225 N (zl_X12_shortestOf N n) l1 l2 l3 l4 l5 l6 l7 l8 I J F else (if 225 = 268 then zb_X12_shortestOf_268 N (zl_X12_shortestOf N n) l1 l2 l3 l4 l5 l6 l7 l8 I J F else (if 225 = 285 then zb_X12_shortestOf_285 N (zl_X12_shortestOf N n) l1 l2 l3 l4 l5 l6 l7 l8 I J F else none)))))))))))) = _
  rw [if_neg (by decide), if_neg (by decide), if_neg (by decide), if_neg (by decide), if_neg (by decide), if_neg (by decide), if_neg (by decide), if_neg (by decide), if_neg (by decide), if_pos rfl]
theorem ze_X12_shortestOf_268 (N : Nat) (n : Nat) (l1 : Int32) (l2 : Int32) (l3 : Int32) (l4 : Int32) (l5 : Int32) (l6 : Int32) (l7 : Int32) (l8 : Int32) (I : Nat → Nat → Int32) (J : Nat → Nat → Int64) (F : zz_F) : zl_X12_shortestOf N (n+1) 268 l1 l2 l3 l4 l5 l6 l7 l8 I J F = zb_X12_shortestOf_268 N (zl_X12_shortestOf N n) l1 l2 l3 l4 l5 l6 l7 l8 I J F := by
  show (if 268 = 0 then zb_X12_shortestOf_0 N (zl_X12_shortestOf N n) l1 l2 l3 l4 l5 l6 l7 l8 I J F else (if 268 = 7 then zb_X12_shortestOf_7 N (zl_X12_shortestOf N n) l1 l2 l3 l4 l5 l6 l7 l8 I J F else (if 268 = 62 then zb_X12_shortestOf_62 N (zl_X12_shortestOf N n) l1 l2 l3 l4 l5 l6 l7 l8 I J F else (if 268 = 71 then zb_X12_shortestOf_71 N (zl_X12_shortestOf N n) l1 l2 l3 l4 l5 l6 l7 l8 I J F else (if 268 = 79 then zb_X12_shortestOf_79 N (zl_X12_shortestOf N n) l1 l2 l3 l4 l5 l6 l7 l8 I J F else (if 268 = 87 then zb_X12_shortestOf_87 N (zl_X12_shortestOf N n) l1 l2 l3 l4 l5 l6 l7 l8 I J F else (if 268 = 103 then zb_X12_shortestOf_103 N (zl_X12_shortestOf N n) l1 l2 l3 l4 l5 l6 l7 l8 I J F else (if 268 = 117 then zb_X12_shortestOf_117 N (zl_X12_shortestOf N n) l1 l2 l3 l4 l5 l6 l7 l8 I J F else (if 268 = 177 then zb_X12_shortestOf_177 N (zl_X12_shortestOf N n) l1 l2 l3 l4 l5 l6 l7 l8 I J F else (if 268 = 225 then zb_X12_shortestOf_225 N (zl_X12_shortestOf N n) l1 l2 l3 l4 l5 l6 l7 l8 I J F else (if 268 = 268 then zb_X12_shortestOf_268 N (zl_X12_shortestOf N n) l1 l2 l3 l4 l5 l6 l7 l8 I J F else (if 268 = 285 then zb_X12_shortestOf_285 N (zl_X12_shortestOf N n) l1 l2 l3 l4 l5 l6 l7 l8 I J F else none)))))))))))) = _
  rw [if_neg (by decide), if_neg (by decide), if_neg (by decide), if_neg (by decide), if_neg (by decide), if_neg (by decide), if_neg (by decide), if_neg (by decide), if_neg (by decide), if_neg (by decide), if_pos rfl]
theorem ze_X12_shortestOf_285 (N : Nat) (n : Nat) (l1 : Int32) (l2 : Int32) (l3 : Int32) (l4 : Int32) (l5 : Int32) (l6 : Int32) (l7 : Int32) (l8 : Int32) (I : Nat → Nat → Int32) (J : Nat → Nat → Int64) (F : zz_F) : zl_X12_shortestOf N (n+1) 285 l1 l2 l3 l4 l5 l6 l7 l8 I J F = zb_X12_shortestOf_285 N (zl_X12_shortestOf N n) l1 l2 l3 l4 l5 l6 l7 l8 I J F := by
  show (if 285 = 0 then zb_X12_shortestOf_0 N (zl_X12_shortestOf N n) l1 l2 l3 l4 l5 l6 l7 l8 I J F else (if 285 = 7 then zb_X12_shortestOf_7 N (zl_X12_shortestOf N n) l1 l2 l3 l4 l5 l6 l7 l8 I J F else (if 285 = 62 then zb_X12_shortestOf_62 N (zl_X12_shortestOf N n) l1 l2 l3 l4 l5 l6 l7 l8 I J F else (if 285 = 71 then zb_X12_shortestOf_71 N (zl_X12_shortestOf N n) l1 l2 l3 l4 l5 l6 l7 l8 I J F else (if 285 = 79 then zb_X12_shortestOf_79 N (zl_X12_shortestOf N n) l1 l2 l3 l4 l5 l6 l7 l8 I J F else (if 285 = 87 then zb_X12_shortestOf_87 N (zl_X12_shortestOf N n) l1 l2 l3 l4 l5 l6 l7 l8 I J F else (if 285 = 103 then zb_X12_shortestOf_103 N (zl_X12_shortestOf N n) l1 l2 l3 l4 l5 l6 l7 l8 I J F else (if 285 = 117 then zb_X12_shortestOf_117 N (zl_X12_shortestOf N n) l1 l2 l3 l4 l5 l6 l7 l8 I J F else (if 285 = 177 then zb_X12_shortestOf_177 N (zl_X12_shortestOf N n) l1 l2 l3 l4 l5 l6 l7 l8 I J F else (if 285 = 225 then zb_X12_shortestOf_225 N (zl_X12_shortestOf N n) l1 l2 l3 l4 l5 l6 l7 l8 I J F else (if 285 = 268 then zb_X12_shortestOf_268 N (zl_X12_shortestOf N n) l1 l2 l3 l4 l5 l6 l7 l8 I J F else (if 285 = 285 then zb_X12_shortestOf_285 N (zl_X12_shortestOf N n) l1 l2 l3 l4 l5 l6 l7 l8 I J F else none)))))))))))) = _
  rw [if_neg (by decide), if_neg (by decide), if_neg (by decide), if_neg (by decide), if_neg (by decide), if_neg (by decide), if_neg (by decide), if_neg (by decide), if_neg (by decide), if_neg (by decide), if_neg (by decide), if_pos rfl]
def zf_X12_shortestOf (N : Nat) (l1 : Int32) (I : Nat → Nat → Int32) (J : Nat → Nat → Int64) (F : zz_F) : Option (Int32 × (Nat → Nat → Int32) × (Nat → Nat → Int64) × zz_F) := zl_X12_shortestOf N N 0 l1 0 0 0 0 0 0 0 I J F
set_option maxHeartbeats 16000000 in
theorem zq_X12_shortestOf (d N : Nat) : ∀ n : Nat, (∀ (l1 : Int32) (l2 : Int32) (l3 : Int32) (l4 : Int32) (l5 : Int32) (l6 : Int32) (l7 : Int32) (l8 : Int32) (I : Nat → Nat → Int32) (J : Nat → Nat → Int64) (F : zz_F) (r : Int32 × (Nat → Nat → Int32) × (Nat → Nat → Int64) × zz_F), zl_X12_shortestOf N n 0 l1 l2 l3 l4 l5 l6 l7 l8 I J F = some r → zz_run (d+70) 269 0 [some (.ref 52), some (.int l1), none, none, none, none, none, none, none] [] (zz_S F I J) (some (.int r.1)) (zz_S (r.2.2.2) (r.2.1) (r.2.2.1))) ∧ (∀ (l1 : Int32) (l2 : Int32) (l3 : Int32) (l4 : Int32) (l5 : Int32) (l6 : Int32) (l7 : Int32) (l8 : Int32) (I : Nat → Nat → Int32) (J : Nat → Nat → Int64) (F : zz_F) (r : Int32 × (Nat → Nat → Int32) × (Nat → Nat → Int64) × zz_F), zl_X12_shortestOf N n 7 l1 l2 l3 l4 l5 l6 l7 l8 I J F = some r → zz_run (d+70) 269 7 [some (.ref 52), some (.int l1), some (.int l2), some (.int l3), some (.int l4), none, none, none, none] [] (zz_S F I J) (some (.int r.1)) (zz_S (r.2.2.2) (r.2.1) (r.2.2.1))) ∧ (∀ (l1 : Int32) (l2 : Int32) (l3 : Int32) (l4 : Int32) (l5 : Int32) (l6 : Int32) (l7 : Int32) (l8 : Int32) (I : Nat → Nat → Int32) (J : Nat → Nat → Int64) (F : zz_F) (r : Int32 × (Nat → Nat → Int32) × (Nat → Nat → Int64) × zz_F), zl_X12_shortestOf N n 62 l1 l2 l3 l4 l5 l6 l7 l8 I J F = some r → zz_run (d+70) 269 62 [some (.ref 52), some (.int l1), some (.int l2), some (.int l3), some (.int l4), none, none, none, none] [] (zz_S F I J) (some (.int r.1)) (zz_S (r.2.2.2) (r.2.1) (r.2.2.1))) ∧ (∀ (l1 : Int32) (l2 : Int32) (l3 : Int32) (l4 : Int32) (l5 : Int32) (l6 : Int32) (l7 : Int32) (l8 : Int32) (I : Nat → Nat → Int32) (J : Nat → Nat → Int64) (F : zz_F) (r : Int32 × (Nat → Nat → Int32) × (Nat → Nat → Int64) × zz_F), zl_X12_shortestOf N n 71 l1 l2 l3 l4 l5 l6 l7 l8 I J F = some r → zz_run (d+70) 269 71 [some (.ref 52), none, some (.int l2), some (.int l3), some (.int l4), none, none, none, none] [] (zz_S F I J) (some (.int r.1)) (zz_S (r.2.2.2) (r.2.1) (r.2.2.1))) ∧ (∀ (l1 : Int32) (l2 : Int32) (l3 : Int32) (l4 : Int32) (l5 : Int32) (l6 : Int32) (l7 : Int32) (l8 : Int32) (I : Nat → Nat → Int32) (J : Nat → Nat → Int64) (F : zz_F) (r : Int32 × (Nat → Nat → Int32) × (Nat → Nat → Int64) × zz_F), zl_X12_shortestOf N n 79 l1 l2 l3 l4 l5 l6 l7 l8 I J F = some r → zz_run (d+70) 269 79 [some (.ref 52), none, some (.int l2), some (.int l3), some (.int l4), some (.int l5), none, none, none] [] (zz_S F I J) (some (.int r.1)) (zz_S (r.2.2.2) (r.2.1) (r.2.2.1))) ∧ (∀ (l1 : Int32) (l2 : Int32) (l3 : Int32) (l4 : Int32) (l5 : Int32) (l6 : Int32) (l7 : Int32) (l8 : Int32) (I : Nat → Nat → Int32) (J : Nat → Nat → Int64) (F : zz_F) (r : Int32 × (Nat → Nat → Int32) × (Nat → Nat → Int64) × zz_F), zl_X12_shortestOf N n 87 l1 l2 l3 l4 l5 l6 l7 l8 I J F = some r → zz_run (d+70) 269 87 [some (.ref 52), none, some (.int l2), some (.int l3), some (.int l4), some (.int l5), some (.int l6), none, none] [] (zz_S F I J) (some (.int r.1)) (zz_S (r.2.2.2) (r.2.1) (r.2.2.1))) ∧ (∀ (l1 : Int32) (l2 : Int32) (l3 : Int32) (l4 : Int32) (l5 : Int32) (l6 : Int32) (l7 : Int32) (l8 : Int32) (I : Nat → Nat → Int32) (J : Nat → Nat → Int64) (F : zz_F) (r : Int32 × (Nat → Nat → Int32) × (Nat → Nat → Int64) × zz_F), zl_X12_shortestOf N n 103 l1 l2 l3 l4 l5 l6 l7 l8 I J F = some r → zz_run (d+70) 269 103 [some (.ref 52), none, some (.int l2), some (.int l3), some (.int l4), some (.int l5), some (.int l6), none, none] [] (zz_S F I J) (some (.int r.1)) (zz_S (r.2.2.2) (r.2.1) (r.2.2.1))) ∧ (∀ (l1 : Int32) (l2 : Int32) (l3 : Int32) (l4 : Int32) (l5 : Int32) (l6 : Int32) (l7 : Int32) (l8 : Int32) (I : Nat → Nat → Int32) (J : Nat → Nat → Int64) (F : zz_F) (r : Int32 × (Nat → Nat → Int32) × (Nat → Nat → Int64) × zz_F), zl_X12_shortestOf N n 117 l1 l2 l3 l4 l5 l6 l7 l8 I J F = some r → zz_run (d+70) 269 117 [some (.ref 52), none, some (.int l2), some (.int l3), some (.int l4), some (.int l5), some (.int l6), none, none] [] (zz_S F I J) (some (.int r.1)) (zz_S (r.2.2.2) (r.2.1) (r.2.2.1))) ∧ (∀ (l1 : Int32) (l2 : Int32) (l3 : Int32) (l4 : Int32) (l5 : Int32) (l6 : Int32) (l7 : Int32) (l8 : Int32) (I : Nat → Nat → Int32) (J : Nat → Nat → Int64) (F : zz_F) (r : Int32 × (Nat → Nat → Int32) × (Nat → Nat → Int64) × zz_F), zl_X12_shortestOf N n 177 l1 l2 l3 l4 l5 l6 l7 l8 I J F = some r → zz_run (d+70) 269 177 [some (.ref 52), none, some (.int l2), some (.int l3), some (.int l4), some (.int l5), some (.int l6), some (.int l7), none] [] (zz_S F I J) (some (.int r.1)) (zz_S (r.2.2.2) (r.2.1) (r.2.2.1))) ∧ (∀ (l1 : Int32) (l2 : Int32) (l3 : Int32) (l4 : Int32) (l5 : Int32) (l6 : Int32) (l7 : Int32) (l8 : Int32) (I : Nat → Nat → Int32) (J : Nat → Nat → Int64) (F : zz_F) (r : Int32 × (Nat → Nat → Int32) × (Nat → Nat → Int64) × zz_F), zl_X12_shortestOf N n 225 l1 l2 l3 l4 l5 l6 l7 l8 I J F = some r → zz_run (d+70) 269 225 [some (.ref 52), none, some (.int l2), some (.int l3), some (.int l4), some (.int l5), some (.int l6), some (.int l7), some (.int l8)] [] (zz_S F I J) (some (.int r.1)) (zz_S (r.2.2.2) (r.2.1) (r.2.2.1))) ∧ (∀ (l1 : Int32) (l2 : Int32) (l3 : Int32) (l4 : Int32) (l5 : Int32) (l6 : Int32) (l7 : Int32) (l8 : Int32) (I : Nat → Nat → Int32) (J : Nat → Nat → Int64) (F : zz_F) (r : Int32 × (Nat → Nat → Int32) × (Nat → Nat → Int64) × zz_F), zl_X12_shortestOf N n 268 l1 l2 l3 l4 l5 l6 l7 l8 I J F = some r → zz_run (d+70) 269 268 [some (.ref 52), none, some (.int l2), some (.int l3), some (.int l4), some (.int l5), some (.int l6), none, some (.int l8)] [] (zz_S F I J) (some (.int r.1)) (zz_S (r.2.2.2) (r.2.1) (r.2.2.1))) ∧ (∀ (l1 : Int32) (l2 : Int32) (l3 : Int32) (l4 : Int32) (l5 : Int32) (l6 : Int32) (l7 : Int32) (l8 : Int32) (I : Nat → Nat → Int32) (J : Nat → Nat → Int64) (F : zz_F) (r : Int32 × (Nat → Nat → Int32) × (Nat → Nat → Int64) × zz_F), zl_X12_shortestOf N n 285 l1 l2 l3 l4 l5 l6 l7 l8 I J F = some r → zz_run (d+70) 269 285 [some (.ref 52), none, some (.int l2), some (.int l3), some (.int l4), some (.int l5), some (.int l6), none, none] [] (zz_S F I J) (some (.int r.1)) (zz_S (r.2.2.2) (r.2.1) (r.2.2.1))) := by
  intro n
  induction n with
  | zero => exact ⟨fun _ _ _ _ _ _ _ _ _ _ _ _ h => zz_no h, fun _ _ _ _ _ _ _ _ _ _ _ _ h => zz_no h, fun _ _ _ _ _ _ _ _ _ _ _ _ h => zz_no h, fun _ _ _ _ _ _ _ _ _ _ _ _ h => zz_no h, fun _ _ _ _ _ _ _ _ _ _ _ _ h => zz_no h, fun _ _ _ _ _ _ _ _ _ _ _ _ h => zz_no h, fun _ _ _ _ _ _ _ _ _ _ _ _ h => zz_no h, fun _ _ _ _ _ _ _ _ _ _ _ _ h => zz_no h, fun _ _ _ _ _ _ _ _ _ _ _ _ h => zz_no h, fun _ _ _ _ _ _ _ _ _ _ _ _ h => zz_no h, fun _ _ _ _ _ _ _ _ _ _ _ _ h => zz_no h, fun _ _ _ _ _ _ _ _ _ _ _ _ h => zz_no h⟩
  | succ n ih =>
    obtain ⟨ih0, ih7, ih62, ih71, ih79, ih87, ih103, ih117, ih177, ih225, ih268, ih285⟩ := ih
    refine ⟨?_, ?_, ?_, ?_, ?_, ?_, ?_, ?_, ?_, ?_, ?_, ?_⟩
    · intro l1 l2 l3 l4 l5 l6 l7 l8 I J F r hr
      rw [ze_X12_shortestOf_0] at hr
      unfold zb_X12_shortestOf_0 at hr
      refine zs_269_0 ?_
      exact zz_wk [true, true, true, true, true, false, false, false, false] rfl (ih7 _ _ _ _ _ _ _ _ _ _ _ _ hr)
    · intro l1 l2 l3 l4 l5 l6 l7 l8 I J F r hr
      rw [ze_X12_shortestOf_7] at hr
      unfold zb_X12_shortestOf_7 at hr
      refine zs_269_7 ?_
      refine And.intro (rfl) (And.intro (fun (h1 : (I 52 1) ≤ l4) => ?_) (fun (h1 : ¬ ((I 52 1) ≤ l4)) => ?_))
      · rw [if_pos h1] at hr
        show zz_run _ 269 68 [some (.ref 52), some (.int l1), some (.int l2), some (.int l3), some (.int l4), none, none, none, none] [] (zz_S F I J) _ _
        refine zs_269_68 ?_
        exact zz_wk [true, false, true, true, true, false, false, false, false] rfl (ih71 _ _ _ _ _ _ _ _ _ _ _ _ hr)
      · rw [if_neg h1] at hr
        refine And.intro (Nat.le_of_ble_eq_true rfl) (And.intro (Nat.le_of_ble_eq_true rfl) (And.intro (Nat.le_of_ble_eq_true rfl) ?_))
        refine Exists.intro _ (Exists.intro _ (And.intro (zr_X12_has F I J (d+69) l1 l4) ?_))
        refine And.intro (fun (h2 : ¬ (zv_X12_has l1 l4) = 0) => ?_) (fun (h2 : ¬ (¬ (zv_X12_has l1 l4) = 0)) => ?_)
        · rw [if_pos h2] at hr
          show zz_run _ 269 28 [some (.ref 52), some (.int l1), some (.int l2), some (.int l3), some (.int l4), none, none, none, none] [] (zz_S F I J) _ _
          refine zs_269_28 ?_
          refine And.intro (rfl) (And.intro (Nat.le_of_ble_eq_true rfl) (And.intro (Nat.le_of_ble_eq_true rfl) (And.intro (Nat.le_of_ble_eq_true rfl) ?_)))
          have g1 : ¬ (((7 * l4) + 0) < 0 ∨ 84 ≤ ((7 * l4) + 0).toNatClampNeg) := zz_g hr
          replace hr := zz_gt hr
          refine Exists.intro _ (Exists.intro _ (And.intro (zr_X12_playOf F I J (d+68) l4 g1) ?_))
          refine And.intro (fun (h3 : ¬ (zv_X12_playOf I l4) = 0) => ?_) (fun (h3 : ¬ (¬ (zv_X12_playOf I l4) = 0)) => ?_)
          · rw [if_pos h3] at hr
            show zz_run _ 269 51 [some (.ref 52), some (.int l1), some (.int l2), some (.int l3), some (.int l4), none, none, none, none] [] (zz_S F I J) _ _
            refine zs_269_51 ?_
            refine And.intro (rfl) (And.intro (rfl) ?_)
            have g2 : ¬ (l3 < 0 ∨ 12 ≤ l3.toNatClampNeg) := zz_g hr
            replace hr := zz_gt hr
            refine And.intro (g2) ?_
            exact zz_wk [true, true, true, true, true, false, false, false, false] rfl (ih62 _ _ _ _ _ _ _ _ _ _ _ _ hr)
          · rw [if_neg h3] at hr
            refine And.intro (rfl) (And.intro (rfl) ?_)
            have g3 : ¬ (l2 < 0 ∨ 12 ≤ l2.toNatClampNeg) := zz_g hr
            replace hr := zz_gt hr
            refine And.intro (g3) ?_
            exact zz_wk [true, true, true, true, true, false, false, false, false] rfl (ih62 _ _ _ _ _ _ _ _ _ _ _ _ hr)
        · rw [if_neg h2] at hr
          exact zz_wk [true, true, true, true, true, false, false, false, false] rfl (ih62 _ _ _ _ _ _ _ _ _ _ _ _ hr)
    · intro l1 l2 l3 l4 l5 l6 l7 l8 I J F r hr
      rw [ze_X12_shortestOf_62] at hr
      unfold zb_X12_shortestOf_62 at hr
      refine zs_269_62 ?_
      exact zz_wk [true, true, true, true, true, false, false, false, false] rfl (ih7 _ _ _ _ _ _ _ _ _ _ _ _ hr)
    · intro l1 l2 l3 l4 l5 l6 l7 l8 I J F r hr
      rw [ze_X12_shortestOf_71] at hr
      unfold zb_X12_shortestOf_71 at hr
      refine zs_269_71 ?_
      refine And.intro (fun (h4 : l4 < 0) => ?_) (fun (h4 : ¬ (l4 < 0)) => ?_)
      · rw [if_pos h4] at hr
        show zz_run _ 269 303 [some (.ref 52), none, some (.int l2), some (.int l3), some (.int l4), none, none, none, none] [] (zz_S F I J) _ _
        refine zs_269_303 ?_
        refine And.intro (rfl) (And.intro (rfl) (And.intro (Nat.le_of_ble_eq_true rfl) (And.intro (Nat.le_of_ble_eq_true rfl) (And.intro (Nat.le_of_ble_eq_true rfl) ?_))))
        refine Exists.intro _ (Exists.intro _ (And.intro (zr_X12_spot F I J (d+69) 0 0 2) ?_))
        refine And.intro (Or.inl rfl) ?_
        have g4 : ¬ ((zv_X12_spot 0 0 2) < 0 ∨ 507 ≤ (zv_X12_spot 0 0 2).toNatClampNeg) := zz_g hr
        replace hr := zz_gt hr
        refine And.intro (g4) ?_
        replace hr := Option.some.inj hr
        subst hr
        exact And.intro rfl (And.intro rfl rfl)
      · rw [if_neg h4] at hr
        exact zz_wk [true, false, true, true, true, true, false, false, false] rfl (ih79 _ _ _ _ _ _ _ _ _ _ _ _ hr)
    · intro l1 l2 l3 l4 l5 l6 l7 l8 I J F r hr
      rw [ze_X12_shortestOf_79] at hr
      unfold zb_X12_shortestOf_79 at hr
      refine zs_269_79 ?_
      refine And.intro (fun (h5 : l5 < 0) => ?_) (fun (h5 : ¬ (l5 < 0)) => ?_)
      · rw [if_pos h5] at hr
        show zz_run _ 269 297 [some (.ref 52), none, some (.int l2), some (.int l3), some (.int l4), some (.int l5), none, none, none] [] (zz_S F I J) _ _
        refine zs_269_297 ?_
        exact zz_wk [true, false, true, true, true, false, false, false, false] rfl (ih71 _ _ _ _ _ _ _ _ _ _ _ _ hr)
      · rw [if_neg h5] at hr
        exact zz_wk [true, false, true, true, true, true, true, false, false] rfl (ih87 _ _ _ _ _ _ _ _ _ _ _ _ hr)
    · intro l1 l2 l3 l4 l5 l6 l7 l8 I J F r hr
      rw [ze_X12_shortestOf_87] at hr
      unfold zb_X12_shortestOf_87 at hr
      refine zs_269_87 ?_
      refine And.intro (fun (h6 : 3 ≤ l6) => ?_) (fun (h6 : ¬ (3 ≤ l6)) => ?_)
      · rw [if_pos h6] at hr
        show zz_run _ 269 291 [some (.ref 52), none, some (.int l2), some (.int l3), some (.int l4), some (.int l5), some (.int l6), none, none] [] (zz_S F I J) _ _
        refine zs_269_291 ?_
        exact zz_wk [true, false, true, true, true, true, false, false, false] rfl (ih79 _ _ _ _ _ _ _ _ _ _ _ _ hr)
      · rw [if_neg h6] at hr
        refine And.intro (fun (h7 : ¬ l6 = 0) => ?_) (fun (h7 : ¬ (¬ l6 = 0)) => ?_)
        · rw [if_pos h7] at hr
          exact zz_wk [true, false, true, true, true, true, true, false, false] rfl (ih103 _ _ _ _ _ _ _ _ _ _ _ _ hr)
        · rw [if_neg h7] at hr
          refine And.intro (fun (h8 : l4 = 0) => ?_) (fun (h8 : ¬ (l4 = 0)) => ?_)
          · rw [if_pos h8] at hr
            exact zz_wk [true, false, true, true, true, true, true, false, false] rfl (ih285 _ _ _ _ _ _ _ _ _ _ _ _ hr)
          · rw [if_neg h8] at hr
            exact zz_wk [true, false, true, true, true, true, true, false, false] rfl (ih103 _ _ _ _ _ _ _ _ _ _ _ _ hr)
    · intro l1 l2 l3 l4 l5 l6 l7 l8 I J F r hr
      rw [ze_X12_shortestOf_103] at hr
      unfold zb_X12_shortestOf_103 at hr
      refine zs_269_103 ?_
      refine And.intro (fun (h9 : ¬ l6 = 1) => ?_) (fun (h9 : ¬ (¬ l6 = 1)) => ?_)
      · rw [if_pos h9] at hr
        exact zz_wk [true, false, true, true, true, true, true, false, false] rfl (ih117 _ _ _ _ _ _ _ _ _ _ _ _ hr)
      · rw [if_neg h9] at hr
        refine And.intro (fun (h10 : ¬ l5 = 0) => ?_) (fun (h10 : ¬ (¬ l5 = 0)) => ?_)
        · rw [if_pos h10] at hr
          exact zz_wk [true, false, true, true, true, true, true, false, false] rfl (ih117 _ _ _ _ _ _ _ _ _ _ _ _ hr)
        · rw [if_neg h10] at hr
          exact zz_wk [true, false, true, true, true, true, true, false, false] rfl (ih285 _ _ _ _ _ _ _ _ _ _ _ _ hr)
    · intro l1 l2 l3 l4 l5 l6 l7 l8 I J F r hr
      rw [ze_X12_shortestOf_117] at hr
      unfold zb_X12_shortestOf_117 at hr
      refine zs_269_117 ?_
      refine And.intro (fun (h11 : ¬ l6 = 0) => ?_) (fun (h11 : ¬ (¬ l6 = 0)) => ?_)
      · rw [if_pos h11] at hr
        show zz_run _ 269 134 [some (.ref 52), none, some (.int l2), some (.int l3), some (.int l4), some (.int l5), some (.int l6), none, none] [] (zz_S F I J) _ _
        refine zs_269_134 ?_
        refine And.intro (fun (h12 : ¬ l6 = 1) => ?_) (fun (h12 : ¬ (¬ l6 = 1)) => ?_)
        · rw [if_pos h12] at hr
          show zz_run _ 269 152 [some (.ref 52), none, some (.int l2), some (.int l3), some (.int l4), some (.int l5), some (.int l6), none, none] [] (zz_S F I J) _ _
          refine zs_269_152 ?_
          refine And.intro (rfl) (And.intro (Or.inl rfl) (And.intro (zz_vk (k := 13) rfl rfl) ?_))
          show zz_run _ 269 159 [some (.ref 52), none, some (.int l2), some (.int l3), some (.int l4), some (.int l5), some (.int l6), none, none] [.int (I 53 13)] (zz_S F I J) _ _
          refine zs_269_159 ?_
          refine And.intro (fun (h13 : ¬ l4 = l2) => ?_) (fun (h13 : ¬ (¬ l4 = l2)) => ?_)
          · rw [if_pos h13] at hr
            exact zz_wk [true, false, true, true, true, true, true, true, false] rfl (ih177 _ _ _ _ _ _ _ _ _ _ _ _ hr)
          · rw [if_neg h13] at hr
            refine And.intro (fun (h14 : ¬ l5 = l3) => ?_) (fun (h14 : ¬ (¬ l5 = l3)) => ?_)
            · rw [if_pos h14] at hr
              exact zz_wk [true, false, true, true, true, true, true, true, false] rfl (ih177 _ _ _ _ _ _ _ _ _ _ _ _ hr)
            · rw [if_neg h14] at hr
              show zz_run _ 269 180 [some (.ref 52), none, some (.int l2), some (.int l3), some (.int l4), some (.int l5), some (.int l6), some (.int (I 53 13)), none] [.int 0] (zz_S F I J) _ _
              refine zs_269_180 ?_
              refine And.intro (fun (h15 : l2 ≤ l4) => ?_) (fun (h15 : ¬ (l2 ≤ l4)) => ?_)
              · rw [if_pos h15] at hr
                exact zz_wk [true, false, true, true, true, true, true, true, true] rfl (ih225 _ _ _ _ _ _ _ _ _ _ _ _ hr)
              · rw [if_neg h15] at hr
                refine And.intro (rfl) (And.intro (Or.inl rfl) ?_)
                have g5 : ¬ (l4 < 0 ∨ 12 ≤ l4.toNatClampNeg) := zz_g hr
                replace hr := zz_gt hr
                refine And.intro (g5) (And.intro (rfl) (And.intro (Nat.le_of_ble_eq_true rfl) (And.intro (Nat.le_of_ble_eq_true rfl) (And.intro (Nat.le_of_ble_eq_true rfl) ?_))))
                obtain ⟨r6, cr6, hr⟩ := Option.bind_eq_some_iff.mp hr
                refine Exists.intro _ (Exists.intro _ (And.intro (zr_X12_stepTo d N (I 53 13) (I 75 l4.toNatClampNeg) I J F r6 cr6) ?_))
                refine And.intro (rfl) (And.intro (rfl) (And.intro (Nat.le_of_ble_eq_true rfl) (And.intro (Nat.le_of_ble_eq_true rfl) (And.intro (Nat.le_of_ble_eq_true rfl) ?_))))
                refine Exists.intro _ (Exists.intro _ (And.intro (zr_X12_spot r6.2.2.2 r6.2.1 r6.2.2.1 (d+69) (l4 + 1) l5 0) ?_))
                refine And.intro (Or.inl rfl) ?_
                have g7 : ¬ ((zv_X12_spot (l4 + 1) l5 0) < 0 ∨ 507 ≤ (zv_X12_spot (l4 + 1) l5 0).toNatClampNeg) := zz_g hr
                replace hr := zz_gt hr
                refine And.intro (g7) (And.intro (Nat.le_of_ble_eq_true rfl) (And.intro (Nat.le_of_ble_eq_true rfl) (And.intro (Nat.le_of_ble_eq_true rfl) ?_)))
                refine Exists.intro _ (Exists.intro _ (And.intro (zr_min r6.2.2.2 r6.2.1 r6.2.2.1 (d+69) 0 (r6.1 + (r6.2.1 74 ((zv_X12_spot (l4 + 1) l5 0).toNatClampNeg)))) ?_))
                exact zz_wk [true, false, true, true, true, true, true, true, true] rfl (ih225 _ _ _ _ _ _ _ _ _ _ _ _ hr)
        · rw [if_neg h12] at hr
          refine And.intro (rfl) (And.intro (Or.inl rfl) ?_)
          have g8 : ¬ ((l5 - 1) < 0 ∨ 12 ≤ (l5 - 1).toNatClampNeg) := zz_g hr
          replace hr := zz_gt hr
          refine And.intro (g8) ?_
          show zz_run _ 269 159 [some (.ref 52), none, some (.int l2), some (.int l3), some (.int l4), some (.int l5), some (.int l6), none, none] [.int (I 76 ((l5 - 1).toNatClampNeg))] (zz_S F I J) _ _
          refine zs_269_159 ?_
          refine And.intro (fun (h16 : ¬ l4 = l2) => ?_) (fun (h16 : ¬ (¬ l4 = l2)) => ?_)
          · rw [if_pos h16] at hr
            exact zz_wk [true, false, true, true, true, true, true, true, false] rfl (ih177 _ _ _ _ _ _ _ _ _ _ _ _ hr)
          · rw [if_neg h16] at hr
            refine And.intro (fun (h17 : ¬ l5 = l3) => ?_) (fun (h17 : ¬ (¬ l5 = l3)) => ?_)
            · rw [if_pos h17] at hr
              exact zz_wk [true, false, true, true, true, true, true, true, false] rfl (ih177 _ _ _ _ _ _ _ _ _ _ _ _ hr)
            · rw [if_neg h17] at hr
              show zz_run _ 269 180 [some (.ref 52), none, some (.int l2), some (.int l3), some (.int l4), some (.int l5), some (.int l6), some (.int (I 76 ((l5 - 1).toNatClampNeg))), none] [.int 0] (zz_S F I J) _ _
              refine zs_269_180 ?_
              refine And.intro (fun (h18 : l2 ≤ l4) => ?_) (fun (h18 : ¬ (l2 ≤ l4)) => ?_)
              · rw [if_pos h18] at hr
                exact zz_wk [true, false, true, true, true, true, true, true, true] rfl (ih225 _ _ _ _ _ _ _ _ _ _ _ _ hr)
              · rw [if_neg h18] at hr
                refine And.intro (rfl) (And.intro (Or.inl rfl) ?_)
                have g9 : ¬ (l4 < 0 ∨ 12 ≤ l4.toNatClampNeg) := zz_g hr
                replace hr := zz_gt hr
                refine And.intro (g9) (And.intro (rfl) (And.intro (Nat.le_of_ble_eq_true rfl) (And.intro (Nat.le_of_ble_eq_true rfl) (And.intro (Nat.le_of_ble_eq_true rfl) ?_))))
                obtain ⟨r10, cr10, hr⟩ := Option.bind_eq_some_iff.mp hr
                refine Exists.intro _ (Exists.intro _ (And.intro (zr_X12_stepTo d N (I 76 ((l5 - 1).toNatClampNeg)) (I 75 l4.toNatClampNeg) I J F r10 cr10) ?_))
                refine And.intro (rfl) (And.intro (rfl) (And.intro (Nat.le_of_ble_eq_true rfl) (And.intro (Nat.le_of_ble_eq_true rfl) (And.intro (Nat.le_of_ble_eq_true rfl) ?_))))
                refine Exists.intro _ (Exists.intro _ (And.intro (zr_X12_spot r10.2.2.2 r10.2.1 r10.2.2.1 (d+69) (l4 + 1) l5 0) ?_))
                refine And.intro (Or.inl rfl) ?_
                have g11 : ¬ ((zv_X12_spot (l4 + 1) l5 0) < 0 ∨ 507 ≤ (zv_X12_spot (l4 + 1) l5 0).toNatClampNeg) := zz_g hr
                replace hr := zz_gt hr
                refine And.intro (g11) (And.intro (Nat.le_of_ble_eq_true rfl) (And.intro (Nat.le_of_ble_eq_true rfl) (And.intro (Nat.le_of_ble_eq_true rfl) ?_)))
                refine Exists.intro _ (Exists.intro _ (And.intro (zr_min r10.2.2.2 r10.2.1 r10.2.2.1 (d+69) 0 (r10.1 + (r10.2.1 74 ((zv_X12_spot (l4 + 1) l5 0).toNatClampNeg)))) ?_))
                exact zz_wk [true, false, true, true, true, true, true, true, true] rfl (ih225 _ _ _ _ _ _ _ _ _ _ _ _ hr)
      · rw [if_neg h11] at hr
        refine And.intro (rfl) (And.intro (Or.inl rfl) ?_)
        have g12 : ¬ ((l4 - 1) < 0 ∨ 12 ≤ (l4 - 1).toNatClampNeg) := zz_g hr
        replace hr := zz_gt hr
        refine And.intro (g12) ?_
        show zz_run _ 269 159 [some (.ref 52), none, some (.int l2), some (.int l3), some (.int l4), some (.int l5), some (.int l6), none, none] [.int (I 75 ((l4 - 1).toNatClampNeg))] (zz_S F I J) _ _
        refine zs_269_159 ?_
        refine And.intro (fun (h19 : ¬ l4 = l2) => ?_) (fun (h19 : ¬ (¬ l4 = l2)) => ?_)
        · rw [if_pos h19] at hr
          exact zz_wk [true, false, true, true, true, true, true, true, false] rfl (ih177 _ _ _ _ _ _ _ _ _ _ _ _ hr)
        · rw [if_neg h19] at hr
          refine And.intro (fun (h20 : ¬ l5 = l3) => ?_) (fun (h20 : ¬ (¬ l5 = l3)) => ?_)
          · rw [if_pos h20] at hr
            exact zz_wk [true, false, true, true, true, true, true, true, false] rfl (ih177 _ _ _ _ _ _ _ _ _ _ _ _ hr)
          · rw [if_neg h20] at hr
            show zz_run _ 269 180 [some (.ref 52), none, some (.int l2), some (.int l3), some (.int l4), some (.int l5), some (.int l6), some (.int (I 75 ((l4 - 1).toNatClampNeg))), none] [.int 0] (zz_S F I J) _ _
            refine zs_269_180 ?_
            refine And.intro (fun (h21 : l2 ≤ l4) => ?_) (fun (h21 : ¬ (l2 ≤ l4)) => ?_)
            · rw [if_pos h21] at hr
              exact zz_wk [true, false, true, true, true, true, true, true, true] rfl (ih225 _ _ _ _ _ _ _ _ _ _ _ _ hr)
            · rw [if_neg h21] at hr
              refine And.intro (rfl) (And.intro (Or.inl rfl) ?_)
              have g13 : ¬ (l4 < 0 ∨ 12 ≤ l4.toNatClampNeg) := zz_g hr
              replace hr := zz_gt hr
              refine And.intro (g13) (And.intro (rfl) (And.intro (Nat.le_of_ble_eq_true rfl) (And.intro (Nat.le_of_ble_eq_true rfl) (And.intro (Nat.le_of_ble_eq_true rfl) ?_))))
              obtain ⟨r14, cr14, hr⟩ := Option.bind_eq_some_iff.mp hr
              refine Exists.intro _ (Exists.intro _ (And.intro (zr_X12_stepTo d N (I 75 ((l4 - 1).toNatClampNeg)) (I 75 l4.toNatClampNeg) I J F r14 cr14) ?_))
              refine And.intro (rfl) (And.intro (rfl) (And.intro (Nat.le_of_ble_eq_true rfl) (And.intro (Nat.le_of_ble_eq_true rfl) (And.intro (Nat.le_of_ble_eq_true rfl) ?_))))
              refine Exists.intro _ (Exists.intro _ (And.intro (zr_X12_spot r14.2.2.2 r14.2.1 r14.2.2.1 (d+69) (l4 + 1) l5 0) ?_))
              refine And.intro (Or.inl rfl) ?_
              have g15 : ¬ ((zv_X12_spot (l4 + 1) l5 0) < 0 ∨ 507 ≤ (zv_X12_spot (l4 + 1) l5 0).toNatClampNeg) := zz_g hr
              replace hr := zz_gt hr
              refine And.intro (g15) (And.intro (Nat.le_of_ble_eq_true rfl) (And.intro (Nat.le_of_ble_eq_true rfl) (And.intro (Nat.le_of_ble_eq_true rfl) ?_)))
              refine Exists.intro _ (Exists.intro _ (And.intro (zr_min r14.2.2.2 r14.2.1 r14.2.2.1 (d+69) 0 (r14.1 + (r14.2.1 74 ((zv_X12_spot (l4 + 1) l5 0).toNatClampNeg)))) ?_))
              exact zz_wk [true, false, true, true, true, true, true, true, true] rfl (ih225 _ _ _ _ _ _ _ _ _ _ _ _ hr)
    · intro l1 l2 l3 l4 l5 l6 l7 l8 I J F r hr
      rw [ze_X12_shortestOf_177] at hr
      unfold zb_X12_shortestOf_177 at hr
      refine zs_269_177 ?_
      show zz_run _ 269 180 [some (.ref 52), none, some (.int l2), some (.int l3), some (.int l4), some (.int l5), some (.int l6), some (.int l7), none] [.int 1000000] (zz_S F I J) _ _
      refine zs_269_180 ?_
      refine And.intro (fun (h23 : l2 ≤ l4) => ?_) (fun (h23 : ¬ (l2 ≤ l4)) => ?_)
      · rw [if_pos h23] at hr
        exact zz_wk [true, false, true, true, true, true, true, true, true] rfl (ih225 _ _ _ _ _ _ _ _ _ _ _ _ hr)
      · rw [if_neg h23] at hr
        refine And.intro (rfl) (And.intro (Or.inl rfl) ?_)
        have g20 : ¬ (l4 < 0 ∨ 12 ≤ l4.toNatClampNeg) := zz_g hr
        replace hr := zz_gt hr
        refine And.intro (g20) (And.intro (rfl) (And.intro (Nat.le_of_ble_eq_true rfl) (And.intro (Nat.le_of_ble_eq_true rfl) (And.intro (Nat.le_of_ble_eq_true rfl) ?_))))
        obtain ⟨r21, cr21, hr⟩ := Option.bind_eq_some_iff.mp hr
        refine Exists.intro _ (Exists.intro _ (And.intro (zr_X12_stepTo d N l7 (I 75 l4.toNatClampNeg) I J F r21 cr21) ?_))
        refine And.intro (rfl) (And.intro (rfl) (And.intro (Nat.le_of_ble_eq_true rfl) (And.intro (Nat.le_of_ble_eq_true rfl) (And.intro (Nat.le_of_ble_eq_true rfl) ?_))))
        refine Exists.intro _ (Exists.intro _ (And.intro (zr_X12_spot r21.2.2.2 r21.2.1 r21.2.2.1 (d+69) (l4 + 1) l5 0) ?_))
        refine And.intro (Or.inl rfl) ?_
        have g22 : ¬ ((zv_X12_spot (l4 + 1) l5 0) < 0 ∨ 507 ≤ (zv_X12_spot (l4 + 1) l5 0).toNatClampNeg) := zz_g hr
        replace hr := zz_gt hr
        refine And.intro (g22) (And.intro (Nat.le_of_ble_eq_true rfl) (And.intro (Nat.le_of_ble_eq_true rfl) (And.intro (Nat.le_of_ble_eq_true rfl) ?_)))
        refine Exists.intro _ (Exists.intro _ (And.intro (zr_min r21.2.2.2 r21.2.1 r21.2.2.1 (d+69) 1000000 (r21.1 + (r21.2.1 74 ((zv_X12_spot (l4 + 1) l5 0).toNatClampNeg)))) ?_))
        exact zz_wk [true, false, true, true, true, true, true, true, true] rfl (ih225 _ _ _ _ _ _ _ _ _ _ _ _ hr)
    · intro l1 l2 l3 l4 l5 l6 l7 l8 I J F r hr
      rw [ze_X12_shortestOf_225] at hr
      unfold zb_X12_shortestOf_225 at hr
      refine zs_269_225 ?_
      refine And.intro (fun (h22 : l3 ≤ l5) => ?_) (fun (h22 : ¬ (l3 ≤ l5)) => ?_)
      · rw [if_pos h22] at hr
        exact zz_wk [true, false, true, true, true, true, true, false, true] rfl (ih268 _ _ _ _ _ _ _ _ _ _ _ _ hr)
      · rw [if_neg h22] at hr
        refine And.intro (rfl) (And.intro (Or.inl rfl) ?_)
        have g16 : ¬ (l5 < 0 ∨ 12 ≤ l5.toNatClampNeg) := zz_g hr
        replace hr := zz_gt hr
        refine And.intro (g16) (And.intro (rfl) (And.intro (Nat.le_of_ble_eq_true rfl) (And.intro (Nat.le_of_ble_eq_true rfl) (And.intro (Nat.le_of_ble_eq_true rfl) ?_))))
        obtain ⟨r17, cr17, hr⟩ := Option.bind_eq_some_iff.mp hr
        refine Exists.intro _ (Exists.intro _ (And.intro (zr_X12_stepTo d N l7 (I 76 l5.toNatClampNeg) I J F r17 cr17) ?_))
        refine And.intro (rfl) (And.intro (rfl) (And.intro (Nat.le_of_ble_eq_true rfl) (And.intro (Nat.le_of_ble_eq_true rfl) (And.intro (Nat.le_of_ble_eq_true rfl) ?_))))
        refine Exists.intro _ (Exists.intro _ (And.intro (zr_X12_spot r17.2.2.2 r17.2.1 r17.2.2.1 (d+69) l4 (l5 + 1) 1) ?_))
        refine And.intro (Or.inl rfl) ?_
        have g18 : ¬ ((zv_X12_spot l4 (l5 + 1) 1) < 0 ∨ 507 ≤ (zv_X12_spot l4 (l5 + 1) 1).toNatClampNeg) := zz_g hr
        replace hr := zz_gt hr
        refine And.intro (g18) (And.intro (Nat.le_of_ble_eq_true rfl) (And.intro (Nat.le_of_ble_eq_true rfl) (And.intro (Nat.le_of_ble_eq_true rfl) ?_)))
        refine Exists.intro _ (Exists.intro _ (And.intro (zr_min r17.2.2.2 r17.2.1 r17.2.2.1 (d+69) l8 (r17.1 + (r17.2.1 74 ((zv_X12_spot l4 (l5 + 1) 1).toNatClampNeg)))) ?_))
        exact zz_wk [true, false, true, true, true, true, true, false, true] rfl (ih268 _ _ _ _ _ _ _ _ _ _ _ _ hr)
    · intro l1 l2 l3 l4 l5 l6 l7 l8 I J F r hr
      rw [ze_X12_shortestOf_268] at hr
      unfold zb_X12_shortestOf_268 at hr
      refine zs_269_268 ?_
      refine And.intro (rfl) (And.intro (rfl) (And.intro (Nat.le_of_ble_eq_true rfl) (And.intro (Nat.le_of_ble_eq_true rfl) (And.intro (Nat.le_of_ble_eq_true rfl) ?_))))
      refine Exists.intro _ (Exists.intro _ (And.intro (zr_X12_spot F I J (d+69) l4 l5 l6) ?_))
      refine And.intro (rfl) ?_
      have g19 : ¬ ((zv_X12_spot l4 l5 l6) < 0 ∨ 507 ≤ (zv_X12_spot l4 l5 l6).toNatClampNeg) := zz_g hr
      replace hr := zz_gt hr
      refine And.intro (g19) ?_
      exact zz_wk [true, false, true, true, true, true, true, false, false] rfl (ih285 _ _ _ _ _ _ _ _ _ _ _ _ hr)
    · intro l1 l2 l3 l4 l5 l6 l7 l8 I J F r hr
      rw [ze_X12_shortestOf_285] at hr
      unfold zb_X12_shortestOf_285 at hr
      refine zs_269_285 ?_
      exact zz_wk [true, false, true, true, true, true, true, false, false] rfl (ih87 _ _ _ _ _ _ _ _ _ _ _ _ hr)
theorem zr_X12_shortestOf (d N : Nat) (l1 : Int32) (I : Nat → Nat → Int32) (J : Nat → Nat → Int64) (F : zz_F) (r : Int32 × (Nat → Nat → Int32) × (Nat → Nat → Int64) × zz_F) (h : zf_X12_shortestOf N l1 I J F = some r) : zz_run (d+70) 269 0 [some (.ref 52), some (.int l1), none, none, none, none, none, none, none] [] (zz_S F I J) (some (.int r.1)) (zz_S (r.2.2.2) (r.2.1) (r.2.2.1)) := (zq_X12_shortestOf d N N).1 l1 0 0 0 0 0 0 0 I J F r h
def zb_X12_cuts_0 (N : Nat) (rec : Nat → Int32 → Int32 → Int32 → Int32 → Int32 → (Nat → Nat → Int32) → (Nat → Nat → Int64) → zz_F → Option (Int32 × (Nat → Nat → Int32) × (Nat → Nat → Int64) × zz_F)) (l1 : Int32) (l2 : Int32) (l3 : Int32) (l4 : Int32) (l5 : Int32) (I : Nat → Nat → Int32) (J : Nat → Nat → Int64) (F : zz_F) : Option (Int32 × (Nat → Nat → Int32) × (Nat → Nat → Int64) × zz_F) := if ¬ (zv_X12_in l1 0 199) = 0 then ((zf_X12_whereBits N 0 (zz_u I 52 7 0) J).bind fun r1 => rec 29 l1 r1.1 r1.1 0 0 (zz_u I 52 7 0) J F) else (some ((-1), zz_u I 52 7 0, J, F))
def zb_X12_cuts_29 (N : Nat) (rec : Nat → Int32 → Int32 → Int32 → Int32 → Int32 → (Nat → Nat → Int32) → (Nat → Nat → Int64) → zz_F → Option (Int32 × (Nat → Nat → Int32) × (Nat → Nat → Int64) × zz_F)) (l1 : Int32) (l2 : Int32) (l3 : Int32) (l4 : Int32) (l5 : Int32) (I : Nat → Nat → Int32) (J : Nat → Nat → Int64) (F : zz_F) : Option (Int32 × (Nat → Nat → Int32) × (Nat → Nat → Int64) × zz_F) := if l2 ≤ l4 then (if ¬ (((zz_u I 52 6 0) 52 6) < 0 ∨ 20 ≤ ((zz_u I 52 6 0) 52 6).toNatClampNeg) then ((zf_X12_shortestOf N (l2 &&& (l3 ^^^ ((-1)))) (zw_X12_tell (zz_u I 52 6 0) J l3.toInt64) (zx_X12_tell (zz_u I 52 6 0) J l3.toInt64) F).bind fun r3 => if ¬ ((r3.2.1 52 6) < 0 ∨ 20 ≤ (r3.2.1 52 6).toNatClampNeg) then ((zf_X12_cheerOf N l3 (zw_X12_tell r3.2.1 r3.2.2.1 r3.1.toInt64) (zx_X12_tell r3.2.1 r3.2.2.1 r3.1.toInt64)).bind fun r5 => some (r5.1, zw_X12_tell r3.2.1 r3.2.2.1 r3.1.toInt64, zx_X12_tell r3.2.1 r3.2.2.1 r3.1.toInt64, r3.2.2.2)) else none) else none) else (if (l4 &&& (l2 ^^^ ((-1)))) = 0 then ((zf_X12_cheerOf N l4 I J).bind fun r6 => (zf_X12_cheerOf N l3 I J).bind fun r7 => if 0 < (r6.1 - r7.1) then (rec 129 l1 l2 l3 l4 0 I J F) else (if ¬ (r6.1 - r7.1) = 0 then (rec 86 l1 l2 l3 l4 (r6.1 - r7.1) I J F) else (if (zv_J6_bitCount l4) ≤ (zv_J6_bitCount l3) then (rec 86 l1 l2 l3 l4 (r6.1 - r7.1) I J F) else (rec 129 l1 l2 l3 l4 0 I J F)))) else (rec 129 l1 l2 l3 l4 0 I J F))
def zb_X12_cuts_86 (N : Nat) (rec : Nat → Int32 → Int32 → Int32 → Int32 → Int32 → (Nat → Nat → Int32) → (Nat → Nat → Int64) → zz_F → Option (Int32 × (Nat → Nat → Int32) × (Nat → Nat → Int64) × zz_F)) (l1 : Int32) (l2 : Int32) (l3 : Int32) (l4 : Int32) (l5 : Int32) (I : Nat → Nat → Int32) (J : Nat → Nat → Int64) (F : zz_F) : Option (Int32 × (Nat → Nat → Int32) × (Nat → Nat → Int64) × zz_F) := if ¬ l5 = 0 then (rec 109 l1 l2 l3 l4 0 I J F) else (if ¬ (zv_J6_bitCount l4) = (zv_J6_bitCount l3) then (rec 109 l1 l2 l3 l4 0 I J F) else (if l3 < l4 then (rec 129 l1 l2 l3 l4 0 I J F) else (rec 109 l1 l2 l3 l4 0 I J F)))
def zb_X12_cuts_109 (N : Nat) (rec : Nat → Int32 → Int32 → Int32 → Int32 → Int32 → (Nat → Nat → Int32) → (Nat → Nat → Int64) → zz_F → Option (Int32 × (Nat → Nat → Int32) × (Nat → Nat → Int64) × zz_F)) (l1 : Int32) (l2 : Int32) (l3 : Int32) (l4 : Int32) (l5 : Int32) (I : Nat → Nat → Int32) (J : Nat → Nat → Int64) (F : zz_F) : Option (Int32 × (Nat → Nat → Int32) × (Nat → Nat → Int64) × zz_F) := (zf_X12_shortestOf N (l2 &&& (l4 ^^^ ((-1)))) I J F).bind fun r8 => if r8.1 ≤ l1 then (rec 129 l1 l2 l4 l4 0 r8.2.1 r8.2.2.1 r8.2.2.2) else (rec 129 l1 l2 l3 l4 0 r8.2.1 r8.2.2.1 r8.2.2.2)
def zb_X12_cuts_129 (N : Nat) (rec : Nat → Int32 → Int32 → Int32 → Int32 → Int32 → (Nat → Nat → Int32) → (Nat → Nat → Int64) → zz_F → Option (Int32 × (Nat → Nat → Int32) × (Nat → Nat → Int64) × zz_F)) (l1 : Int32) (l2 : Int32) (l3 : Int32) (l4 : Int32) (l5 : Int32) (I : Nat → Nat → Int32) (J : Nat → Nat → Int64) (F : zz_F) : Option (Int32 × (Nat → Nat → Int32) × (Nat → Nat → Int64) × zz_F) := rec 29 l1 l2 l3 (l4 + 1) 0 I J F
def zl_X12_cuts (N : Nat) : Nat → Nat → Int32 → Int32 → Int32 → Int32 → Int32 → (Nat → Nat → Int32) → (Nat → Nat → Int64) → zz_F → Option (Int32 × (Nat → Nat → Int32) × (Nat → Nat → Int64) × zz_F)
  | 0 => fun _ _ _ _ _ _ _ _ _ => none
  | n + 1 => fun pc l1 l2 l3 l4 l5 I J F => if pc = 0 then zb_X12_cuts_0 N (zl_X12_cuts N n) l1 l2 l3 l4 l5 I J F else (if pc = 29 then zb_X12_cuts_29 N (zl_X12_cuts N n) l1 l2 l3 l4 l5 I J F else (if pc = 86 then zb_X12_cuts_86 N (zl_X12_cuts N n) l1 l2 l3 l4 l5 I J F else (if pc = 109 then zb_X12_cuts_109 N (zl_X12_cuts N n) l1 l2 l3 l4 l5 I J F else (if pc = 129 then zb_X12_cuts_129 N (zl_X12_cuts N n) l1 l2 l3 l4 l5 I J F else none))))
theorem ze_X12_cuts_0 (N : Nat) (n : Nat) (l1 : Int32) (l2 : Int32) (l3 : Int32) (l4 : Int32) (l5 : Int32) (I : Nat → Nat → Int32) (J : Nat → Nat → Int64) (F : zz_F) : zl_X12_cuts N (n+1) 0 l1 l2 l3 l4 l5 I J F = zb_X12_cuts_0 N (zl_X12_cuts N n) l1 l2 l3 l4 l5 I J F := by
  show (if 0 = 0 then zb_X12_cuts_0 N (zl_X12_cuts N n) l1 l2 l3 l4 l5 I J F else (if 0 = 29 then zb_X12_cuts_29 N (zl_X12_cuts N n) l1 l2 l3 l4 l5 I J F else (if 0 = 86 then zb_X12_cuts_86 N (zl_X12_cuts N n) l1 l2 l3 l4 l5 I J F else (if 0 = 109 then zb_X12_cuts_109 N (zl_X12_cuts N n) l1 l2 l3 l4 l5 I J F else (if 0 = 129 then zb_X12_cuts_129 N (zl_X12_cuts N n) l1 l2 l3 l4 l5 I J F else none))))) = _
  rw [if_pos rfl]
theorem ze_X12_cuts_29 (N : Nat) (n : Nat) (l1 : Int32) (l2 : Int32) (l3 : Int32) (l4 : Int32) (l5 : Int32) (I : Nat → Nat → Int32) (J : Nat → Nat → Int64) (F : zz_F) : zl_X12_cuts N (n+1) 29 l1 l2 l3 l4 l5 I J F = zb_X12_cuts_29 N (zl_X12_cuts N n) l1 l2 l3 l4 l5 I J F := by
  show (if 29 = 0 then zb_X12_cuts_0 N (zl_X12_cuts N n) l1 l2 l3 l4 l5 I J F else (if 29 = 29 then zb_X12_cuts_29 N (zl_X12_cuts N n) l1 l2 l3 l4 l5 I J F else (if 29 = 86 then zb_X12_cuts_86 N (zl_X12_cuts N n) l1 l2 l3 l4 l5 I J F else (if 29 = 109 then zb_X12_cuts_109 N (zl_X12_cuts N n) l1 l2 l3 l4 l5 I J F else (if 29 = 129 then zb_X12_cuts_129 N (zl_X12_cuts N n) l1 l2 l3 l4 l5 I J F else none))))) = _
  rw [if_neg (by decide), if_pos rfl]
theorem ze_X12_cuts_86 (N : Nat) (n : Nat) (l1 : Int32) (l2 : Int32) (l3 : Int32) (l4 : Int32) (l5 : Int32) (I : Nat → Nat → Int32) (J : Nat → Nat → Int64) (F : zz_F) : zl_X12_cuts N (n+1) 86 l1 l2 l3 l4 l5 I J F = zb_X12_cuts_86 N (zl_X12_cuts N n) l1 l2 l3 l4 l5 I J F := by
  show (if 86 = 0 then zb_X12_cuts_0 N (zl_X12_cuts N n) l1 l2 l3 l4 l5 I J F else (if 86 = 29 then zb_X12_cuts_29 N (zl_X12_cuts N n) l1 l2 l3 l4 l5 I J F else (if 86 = 86 then zb_X12_cuts_86 N (zl_X12_cuts N n) l1 l2 l3 l4 l5 I J F else (if 86 = 109 then zb_X12_cuts_109 N (zl_X12_cuts N n) l1 l2 l3 l4 l5 I J F else (if 86 = 129 then zb_X12_cuts_129 N (zl_X12_cuts N n) l1 l2 l3 l4 l5 I J F else none))))) = _
  rw [if_neg (by decide), if_neg (by decide), if_pos rfl]
theorem ze_X12_cuts_109 (N : Nat) (n : Nat) (l1 : Int32) (l2 : Int32) (l3 : Int32) (l4 : Int32) (l5 : Int32) (I : Nat → Nat → Int32) (J : Nat → Nat → Int64) (F : zz_F) : zl_X12_cuts N (n+1) 109 l1 l2 l3 l4 l5 I J F = zb_X12_cuts_109 N (zl_X12_cuts N n) l1 l2 l3 l4 l5 I J F := by
  show (if 109 = 0 then zb_X12_cuts_0 N (zl_X12_cuts N n) l1 l2 l3 l4 l5 I J F else (if 109 = 29 then zb_X12_cuts_29 N (zl_X12_cuts N n) l1 l2 l3 l4 l5 I J F else (if 109 = 86 then zb_X12_cuts_86 N (zl_X12_cuts N n) l1 l2 l3 l4 l5 I J F else (if 109 = 109 then zb_X12_cuts_109 N (zl_X12_cuts N n) l1 l2 l3 l4 l5 I J F else (if 109 = 129 then zb_X12_cuts_129 N (zl_X12_cuts N n) l1 l2 l3 l4 l5 I J F else none))))) = _
  rw [if_neg (by decide), if_neg (by decide), if_neg (by decide), if_pos rfl]
theorem ze_X12_cuts_129 (N : Nat) (n : Nat) (l1 : Int32) (l2 : Int32) (l3 : Int32) (l4 : Int32) (l5 : Int32) (I : Nat → Nat → Int32) (J : Nat → Nat → Int64) (F : zz_F) : zl_X12_cuts N (n+1) 129 l1 l2 l3 l4 l5 I J F = zb_X12_cuts_129 N (zl_X12_cuts N n) l1 l2 l3 l4 l5 I J F := by
  show (if 129 = 0 then zb_X12_cuts_0 N (zl_X12_cuts N n) l1 l2 l3 l4 l5 I J F else (if 129 = 29 then zb_X12_cuts_29 N (zl_X12_cuts N n) l1 l2 l3 l4 l5 I J F else (if 129 = 86 then zb_X12_cuts_86 N (zl_X12_cuts N n) l1 l2 l3 l4 l5 I J F else (if 129 = 109 then zb_X12_cuts_109 N (zl_X12_cuts N n) l1 l2 l3 l4 l5 I J F else (if 129 = 129 then zb_X12_cuts_129 N (zl_X12_cuts N n) l1 l2 l3 l4 l5 I J F else none))))) = _
  rw [if_neg (by decide), if_neg (by decide), if_neg (by decide), if_neg (by decide), if_pos rfl]
def zf_X12_cuts (N : Nat) (l1 : Int32) (I : Nat → Nat → Int32) (J : Nat → Nat → Int64) (F : zz_F) : Option (Int32 × (Nat → Nat → Int32) × (Nat → Nat → Int64) × zz_F) := zl_X12_cuts N N 0 l1 0 0 0 0 I J F
set_option maxHeartbeats 16000000 in
theorem zq_X12_cuts (d N : Nat) : ∀ n : Nat, (∀ (l1 : Int32) (l2 : Int32) (l3 : Int32) (l4 : Int32) (l5 : Int32) (I : Nat → Nat → Int32) (J : Nat → Nat → Int64) (F : zz_F) (r : Int32 × (Nat → Nat → Int32) × (Nat → Nat → Int64) × zz_F), zl_X12_cuts N n 0 l1 l2 l3 l4 l5 I J F = some r → zz_run (d+71) 271 0 [some (.ref 52), some (.int l1), none, none, none, none] [] (zz_S F I J) (some (.int r.1)) (zz_S (r.2.2.2) (r.2.1) (r.2.2.1))) ∧ (∀ (l1 : Int32) (l2 : Int32) (l3 : Int32) (l4 : Int32) (l5 : Int32) (I : Nat → Nat → Int32) (J : Nat → Nat → Int64) (F : zz_F) (r : Int32 × (Nat → Nat → Int32) × (Nat → Nat → Int64) × zz_F), zl_X12_cuts N n 29 l1 l2 l3 l4 l5 I J F = some r → zz_run (d+71) 271 29 [some (.ref 52), some (.int l1), some (.int l2), some (.int l3), some (.int l4), none] [] (zz_S F I J) (some (.int r.1)) (zz_S (r.2.2.2) (r.2.1) (r.2.2.1))) ∧ (∀ (l1 : Int32) (l2 : Int32) (l3 : Int32) (l4 : Int32) (l5 : Int32) (I : Nat → Nat → Int32) (J : Nat → Nat → Int64) (F : zz_F) (r : Int32 × (Nat → Nat → Int32) × (Nat → Nat → Int64) × zz_F), zl_X12_cuts N n 86 l1 l2 l3 l4 l5 I J F = some r → zz_run (d+71) 271 86 [some (.ref 52), some (.int l1), some (.int l2), some (.int l3), some (.int l4), some (.int l5)] [] (zz_S F I J) (some (.int r.1)) (zz_S (r.2.2.2) (r.2.1) (r.2.2.1))) ∧ (∀ (l1 : Int32) (l2 : Int32) (l3 : Int32) (l4 : Int32) (l5 : Int32) (I : Nat → Nat → Int32) (J : Nat → Nat → Int64) (F : zz_F) (r : Int32 × (Nat → Nat → Int32) × (Nat → Nat → Int64) × zz_F), zl_X12_cuts N n 109 l1 l2 l3 l4 l5 I J F = some r → zz_run (d+71) 271 109 [some (.ref 52), some (.int l1), some (.int l2), some (.int l3), some (.int l4), none] [] (zz_S F I J) (some (.int r.1)) (zz_S (r.2.2.2) (r.2.1) (r.2.2.1))) ∧ (∀ (l1 : Int32) (l2 : Int32) (l3 : Int32) (l4 : Int32) (l5 : Int32) (I : Nat → Nat → Int32) (J : Nat → Nat → Int64) (F : zz_F) (r : Int32 × (Nat → Nat → Int32) × (Nat → Nat → Int64) × zz_F), zl_X12_cuts N n 129 l1 l2 l3 l4 l5 I J F = some r → zz_run (d+71) 271 129 [some (.ref 52), some (.int l1), some (.int l2), some (.int l3), some (.int l4), none] [] (zz_S F I J) (some (.int r.1)) (zz_S (r.2.2.2) (r.2.1) (r.2.2.1))) := by
  intro n
  induction n with
  | zero => exact ⟨fun _ _ _ _ _ _ _ _ _ h => zz_no h, fun _ _ _ _ _ _ _ _ _ h => zz_no h, fun _ _ _ _ _ _ _ _ _ h => zz_no h, fun _ _ _ _ _ _ _ _ _ h => zz_no h, fun _ _ _ _ _ _ _ _ _ h => zz_no h⟩
  | succ n ih =>
    obtain ⟨ih0, ih29, ih86, ih109, ih129⟩ := ih
    refine ⟨?_, ?_, ?_, ?_, ?_⟩
    · intro l1 l2 l3 l4 l5 I J F r hr
      rw [ze_X12_cuts_0] at hr
      unfold zb_X12_cuts_0 at hr
      refine zs_271_0 ?_
      refine And.intro (rfl) (And.intro (rfl) (And.intro (And.intro rfl rfl) (And.intro (Nat.le_of_ble_eq_true rfl) (And.intro (Nat.le_of_ble_eq_true rfl) (And.intro (Nat.le_of_ble_eq_true rfl) ?_)))))
      refine Exists.intro _ (Exists.intro _ (And.intro (zr_X12_in F (zz_u I 52 7 0) J (d+70) l1 0 199) ?_))
      refine And.intro (fun (h1 : ¬ (zv_X12_in l1 0 199) = 0) => ?_) (fun (h1 : ¬ (¬ (zv_X12_in l1 0 199) = 0)) => ?_)
      · rw [if_pos h1] at hr
        show zz_run _ 271 18 [some (.ref 52), some (.int l1), none, none, none, none] [] (zz_S F (zz_u I 52 7 0) J) _ _
        refine zs_271_18 ?_
        refine And.intro (rfl) (And.intro (Nat.le_of_ble_eq_true rfl) (And.intro (Nat.le_of_ble_eq_true rfl) (And.intro (Nat.le_of_ble_eq_true rfl) ?_)))
        obtain ⟨r1, cr1, hr⟩ := Option.bind_eq_some_iff.mp hr
        refine Exists.intro _ (Exists.intro _ (And.intro (zr_X12_whereBits F (zz_u I 52 7 0) J (d+70) N 0 r1 cr1) ?_))
        exact zz_wk [true, true, true, true, true, false] rfl (ih29 _ _ _ _ _ _ _ _ _ hr)
      · rw [if_neg h1] at hr
        replace hr := Option.some.inj hr
        subst hr
        exact And.intro rfl (And.intro rfl rfl)
    · intro l1 l2 l3 l4 l5 I J F r hr
      rw [ze_X12_cuts_29] at hr
      unfold zb_X12_cuts_29 at hr
      refine zs_271_29 ?_
      refine And.intro (fun (h2 : l2 ≤ l4) => ?_) (fun (h2 : ¬ (l2 ≤ l4)) => ?_)
      · rw [if_pos h2] at hr
        show zz_run _ 271 135 [some (.ref 52), some (.int l1), some (.int l2), some (.int l3), some (.int l4), none] [] (zz_S F I J) _ _
        refine zs_271_135 ?_
        refine And.intro (rfl) (And.intro (rfl) (And.intro (And.intro rfl rfl) (And.intro (rfl) (And.intro (Nat.le_of_ble_eq_true rfl) (And.intro (Nat.le_of_ble_eq_true rfl) ?_)))))
        refine And.intro (Nat.le_of_ble_eq_true rfl) ?_
        have g2 : ¬ (((zz_u I 52 6 0) 52 6) < 0 ∨ 20 ≤ ((zz_u I 52 6 0) 52 6).toNatClampNeg) := zz_g hr
        replace hr := zz_gt hr
        refine Exists.intro _ (Exists.intro _ (And.intro (zr_X12_tell F (zz_u I 52 6 0) J (d+70) l3.toInt64 g2) ?_))
        refine And.intro (rfl) (And.intro (Nat.le_of_ble_eq_true rfl) (And.intro (Nat.le_of_ble_eq_true rfl) (And.intro (Nat.le_of_ble_eq_true rfl) ?_)))
        obtain ⟨r3, cr3, hr⟩ := Option.bind_eq_some_iff.mp hr
        refine Exists.intro _ (Exists.intro _ (And.intro (zr_X12_shortestOf d N (l2 &&& (l3 ^^^ ((-1)))) (zw_X12_tell (zz_u I 52 6 0) J l3.toInt64) (zx_X12_tell (zz_u I 52 6 0) J l3.toInt64) F r3 cr3) ?_))
        refine And.intro (rfl) (And.intro (Nat.le_of_ble_eq_true rfl) (And.intro (Nat.le_of_ble_eq_true rfl) (And.intro (Nat.le_of_ble_eq_true rfl) ?_)))
        have g4 : ¬ ((r3.2.1 52 6) < 0 ∨ 20 ≤ (r3.2.1 52 6).toNatClampNeg) := zz_g hr
        replace hr := zz_gt hr
        refine Exists.intro _ (Exists.intro _ (And.intro (zr_X12_tell r3.2.2.2 r3.2.1 r3.2.2.1 (d+70) r3.1.toInt64 g4) ?_))
        refine And.intro (rfl) (And.intro (Nat.le_of_ble_eq_true rfl) (And.intro (Nat.le_of_ble_eq_true rfl) (And.intro (Nat.le_of_ble_eq_true rfl) ?_)))
        obtain ⟨r5, cr5, hr⟩ := Option.bind_eq_some_iff.mp hr
        refine Exists.intro _ (Exists.intro _ (And.intro (zr_X12_cheerOf r3.2.2.2 (zw_X12_tell r3.2.1 r3.2.2.1 r3.1.toInt64) (zx_X12_tell r3.2.1 r3.2.2.1 r3.1.toInt64) (d+69) N l3 r5 cr5) ?_))
        replace hr := Option.some.inj hr
        subst hr
        exact And.intro rfl (And.intro rfl rfl)
      · rw [if_neg h2] at hr
        refine And.intro (fun (h3 : (l4 &&& (l2 ^^^ ((-1)))) = 0) => ?_) (fun (h3 : ¬ ((l4 &&& (l2 ^^^ ((-1)))) = 0)) => ?_)
        · rw [if_pos h3] at hr
          show zz_run _ 271 47 [some (.ref 52), some (.int l1), some (.int l2), some (.int l3), some (.int l4), none] [] (zz_S F I J) _ _
          refine zs_271_47 ?_
          refine And.intro (rfl) (And.intro (Nat.le_of_ble_eq_true rfl) (And.intro (Nat.le_of_ble_eq_true rfl) (And.intro (Nat.le_of_ble_eq_true rfl) ?_)))
          obtain ⟨r6, cr6, hr⟩ := Option.bind_eq_some_iff.mp hr
          refine Exists.intro _ (Exists.intro _ (And.intro (zr_X12_cheerOf F I J (d+69) N l4 r6 cr6) ?_))
          refine And.intro (rfl) (And.intro (Nat.le_of_ble_eq_true rfl) (And.intro (Nat.le_of_ble_eq_true rfl) (And.intro (Nat.le_of_ble_eq_true rfl) ?_)))
          obtain ⟨r7, cr7, hr⟩ := Option.bind_eq_some_iff.mp hr
          refine Exists.intro _ (Exists.intro _ (And.intro (zr_X12_cheerOf F I J (d+69) N l3 r7 cr7) ?_))
          refine And.intro (fun (h4 : 0 < (r6.1 - r7.1)) => ?_) (fun (h4 : ¬ (0 < (r6.1 - r7.1))) => ?_)
          · rw [if_pos h4] at hr
            exact zz_wk [true, true, true, true, true, false] rfl (ih129 _ _ _ _ _ _ _ _ _ hr)
          · rw [if_neg h4] at hr
            refine And.intro (fun (h5 : ¬ (r6.1 - r7.1) = 0) => ?_) (fun (h5 : ¬ (¬ (r6.1 - r7.1) = 0)) => ?_)
            · rw [if_pos h5] at hr
              exact zz_wk [true, true, true, true, true, true] rfl (ih86 _ _ _ _ _ _ _ _ _ hr)
            · rw [if_neg h5] at hr
              refine And.intro (Nat.le_of_ble_eq_true rfl) (And.intro (Nat.le_of_ble_eq_true rfl) (And.intro (Nat.le_of_ble_eq_true rfl) ?_))
              refine Exists.intro _ (Exists.intro _ (And.intro (zr_J6_bitCount F I J (d+70) l4) ?_))
              refine And.intro (Nat.le_of_ble_eq_true rfl) (And.intro (Nat.le_of_ble_eq_true rfl) (And.intro (Nat.le_of_ble_eq_true rfl) ?_))
              refine Exists.intro _ (Exists.intro _ (And.intro (zr_J6_bitCount F I J (d+70) l3) ?_))
              refine And.intro (fun (h6 : (zv_J6_bitCount l4) ≤ (zv_J6_bitCount l3)) => ?_) (fun (h6 : ¬ ((zv_J6_bitCount l4) ≤ (zv_J6_bitCount l3))) => ?_)
              · rw [if_pos h6] at hr
                exact zz_wk [true, true, true, true, true, true] rfl (ih86 _ _ _ _ _ _ _ _ _ hr)
              · rw [if_neg h6] at hr
                exact zz_wk [true, true, true, true, true, false] rfl (ih129 _ _ _ _ _ _ _ _ _ hr)
        · rw [if_neg h3] at hr
          exact zz_wk [true, true, true, true, true, false] rfl (ih129 _ _ _ _ _ _ _ _ _ hr)
    · intro l1 l2 l3 l4 l5 I J F r hr
      rw [ze_X12_cuts_86] at hr
      unfold zb_X12_cuts_86 at hr
      refine zs_271_86 ?_
      refine And.intro (fun (h7 : ¬ l5 = 0) => ?_) (fun (h7 : ¬ (¬ l5 = 0)) => ?_)
      · rw [if_pos h7] at hr
        exact zz_wk [true, true, true, true, true, false] rfl (ih109 _ _ _ _ _ _ _ _ _ hr)
      · rw [if_neg h7] at hr
        refine And.intro (Nat.le_of_ble_eq_true rfl) (And.intro (Nat.le_of_ble_eq_true rfl) (And.intro (Nat.le_of_ble_eq_true rfl) ?_))
        refine Exists.intro _ (Exists.intro _ (And.intro (zr_J6_bitCount F I J (d+70) l4) ?_))
        refine And.intro (Nat.le_of_ble_eq_true rfl) (And.intro (Nat.le_of_ble_eq_true rfl) (And.intro (Nat.le_of_ble_eq_true rfl) ?_))
        refine Exists.intro _ (Exists.intro _ (And.intro (zr_J6_bitCount F I J (d+70) l3) ?_))
        refine And.intro (fun (h8 : ¬ (zv_J6_bitCount l4) = (zv_J6_bitCount l3)) => ?_) (fun (h8 : ¬ (¬ (zv_J6_bitCount l4) = (zv_J6_bitCount l3))) => ?_)
        · rw [if_pos h8] at hr
          exact zz_wk [true, true, true, true, true, false] rfl (ih109 _ _ _ _ _ _ _ _ _ hr)
        · rw [if_neg h8] at hr
          refine And.intro (fun (h9 : l3 < l4) => ?_) (fun (h9 : ¬ (l3 < l4)) => ?_)
          · rw [if_pos h9] at hr
            exact zz_wk [true, true, true, true, true, false] rfl (ih129 _ _ _ _ _ _ _ _ _ hr)
          · rw [if_neg h9] at hr
            exact zz_wk [true, true, true, true, true, false] rfl (ih109 _ _ _ _ _ _ _ _ _ hr)
    · intro l1 l2 l3 l4 l5 I J F r hr
      rw [ze_X12_cuts_109] at hr
      unfold zb_X12_cuts_109 at hr
      refine zs_271_109 ?_
      refine And.intro (rfl) (And.intro (Nat.le_of_ble_eq_true rfl) (And.intro (Nat.le_of_ble_eq_true rfl) (And.intro (Nat.le_of_ble_eq_true rfl) ?_)))
      obtain ⟨r8, cr8, hr⟩ := Option.bind_eq_some_iff.mp hr
      refine Exists.intro _ (Exists.intro _ (And.intro (zr_X12_shortestOf d N (l2 &&& (l4 ^^^ ((-1)))) I J F r8 cr8) ?_))
      refine And.intro (fun (h10 : r8.1 ≤ l1) => ?_) (fun (h10 : ¬ (r8.1 ≤ l1)) => ?_)
      · rw [if_pos h10] at hr
        show zz_run _ 271 126 [some (.ref 52), some (.int l1), some (.int l2), some (.int l3), some (.int l4), none] [] (zz_S r8.2.2.2 r8.2.1 r8.2.2.1) _ _
        refine zs_271_126 ?_
        exact zz_wk [true, true, true, true, true, false] rfl (ih129 _ _ _ _ _ _ _ _ _ hr)
      · rw [if_neg h10] at hr
        exact zz_wk [true, true, true, true, true, false] rfl (ih129 _ _ _ _ _ _ _ _ _ hr)
    · intro l1 l2 l3 l4 l5 I J F r hr
      rw [ze_X12_cuts_129] at hr
      unfold zb_X12_cuts_129 at hr
      refine zs_271_129 ?_
      exact zz_wk [true, true, true, true, true, false] rfl (ih29 _ _ _ _ _ _ _ _ _ hr)
theorem zr_X12_cuts (d N : Nat) (l1 : Int32) (I : Nat → Nat → Int32) (J : Nat → Nat → Int64) (F : zz_F) (r : Int32 × (Nat → Nat → Int32) × (Nat → Nat → Int64) × zz_F) (h : zf_X12_cuts N l1 I J F = some r) : zz_run (d+71) 271 0 [some (.ref 52), some (.int l1), none, none, none, none] [] (zz_S F I J) (some (.int r.1)) (zz_S (r.2.2.2) (r.2.1) (r.2.2.1)) := (zq_X12_cuts d N N).1 l1 0 0 0 0 I J F r h
def zb_X12_law_0 (N : Nat) (rec : Nat → Int32 → Int32 → Nat → Int32 → Int32 → (Nat → Nat → Int32) → (Nat → Nat → Int64) → zz_F → Option (Int32 × (Nat → Nat → Int32) × (Nat → Nat → Int64) × zz_F)) (l1 : Int32) (l2 : Int32) (a3 : Nat) (l4 : Int32) (l5 : Int32) (I : Nat → Nat → Int32) (J : Nat → Nat → Int64) (F : zz_F) : Option (Int32 × (Nat → Nat → Int32) × (Nat → Nat → Int64) × zz_F) := (zf_X12_readRule N  (zz_u I 52 7 0) J F).bind fun r1 => if ¬ r1.1 = 0 then ((zf_X12_whereBits N 0 r1.2.1 r1.2.2.1).bind fun r2 => (zf_X12_shortestOf N r2.1 r1.2.1 r1.2.2.1 r1.2.2.2).bind fun r3 => rec 63 (I 52 4) r3.1 (zz_ru r3.2.2.2) (r3.2.1 52 16) 0 (zz_u r3.2.1 52 16 (I 52 4)) r3.2.2.1 (zz_Fru r3.2.2.2 59)) else (some (((-10000)) - (r1.2.1 52 12), r1.2.1, r1.2.2.1, r1.2.2.2))
def zb_X12_law_63 (N : Nat) (rec : Nat → Int32 → Int32 → Nat → Int32 → Int32 → (Nat → Nat → Int32) → (Nat → Nat → Int64) → zz_F → Option (Int32 × (Nat → Nat → Int32) × (Nat → Nat → Int64) × zz_F)) (l1 : Int32) (l2 : Int32) (a3 : Nat) (l4 : Int32) (l5 : Int32) (I : Nat → Nat → Int32) (J : Nat → Nat → Int64) (F : zz_F) : Option (Int32 × (Nat → Nat → Int32) × (Nat → Nat → Int64) × zz_F) := if l1 ≤ l5 then ((zf_X12_whereBits N 0 I J).bind fun r4 => (zf_X12_shortestOf N r4.1 I J F).bind fun r5 => if ¬ (((zz_u (zz_u r5.2.1 52 16 l4) 52 6 0) 52 6) < 0 ∨ 20 ≤ ((zz_u (zz_u r5.2.1 52 16 l4) 52 6 0) 52 6).toNatClampNeg) then (if ¬ (((zw_X12_tell (zz_u (zz_u r5.2.1 52 16 l4) 52 6 0) r5.2.2.1 r5.1.toInt64) 52 6) < 0 ∨ 20 ≤ ((zw_X12_tell (zz_u (zz_u r5.2.1 52 16 l4) 52 6 0) r5.2.2.1 r5.1.toInt64) 52 6).toNatClampNeg) then ((some (zw_X12_tell (zw_X12_tell (zz_u (zz_u r5.2.1 52 16 l4) 52 6 0) r5.2.2.1 r5.1.toInt64) (zx_X12_tell (zz_u (zz_u r5.2.1 52 16 l4) 52 6 0) r5.2.2.1 r5.1.toInt64) l2.toInt64)).bind fun i8 => some (r5.1 - l2, i8, zx_X12_tell (zw_X12_tell (zz_u (zz_u r5.2.1 52 16 l4) 52 6 0) r5.2.2.1 r5.1.toInt64) (zx_X12_tell (zz_u (zz_u r5.2.1 52 16 l4) 52 6 0) r5.2.2.1 r5.1.toInt64) l2.toInt64, zz_Fru r5.2.2.2 a3)) else none) else none) else (if ¬ (l5 < 0 ∨ 80 ≤ l5.toNatClampNeg) then (if zz_XK F.2.2.1 (zz_ru F) = 12 then (if ¬ (l5 < 0 ∨ (zz_XL F.2.2.2.2.1 F.2.2.2.1 (zz_ru F)) ≤ l5.toNatClampNeg) then (rec 63 l1 l2 a3 l4 (l5 + 1) (zz_u I (zz_ru F) l5.toNatClampNeg (vp_nar (if zz_XK F.2.2.1 (zz_ru F) = 12 then .byte else .boolean) (I 55 l5.toNatClampNeg))) J F) else none) else none) else none)
def zl_X12_law (N : Nat) : Nat → Nat → Int32 → Int32 → Nat → Int32 → Int32 → (Nat → Nat → Int32) → (Nat → Nat → Int64) → zz_F → Option (Int32 × (Nat → Nat → Int32) × (Nat → Nat → Int64) × zz_F)
  | 0 => fun _ _ _ _ _ _ _ _ _ => none
  | n + 1 => fun pc l1 l2 a3 l4 l5 I J F => if pc = 0 then zb_X12_law_0 N (zl_X12_law N n) l1 l2 a3 l4 l5 I J F else (if pc = 63 then zb_X12_law_63 N (zl_X12_law N n) l1 l2 a3 l4 l5 I J F else none)
theorem ze_X12_law_0 (N : Nat) (n : Nat) (l1 : Int32) (l2 : Int32) (a3 : Nat) (l4 : Int32) (l5 : Int32) (I : Nat → Nat → Int32) (J : Nat → Nat → Int64) (F : zz_F) : zl_X12_law N (n+1) 0 l1 l2 a3 l4 l5 I J F = zb_X12_law_0 N (zl_X12_law N n) l1 l2 a3 l4 l5 I J F := by
  show (if 0 = 0 then zb_X12_law_0 N (zl_X12_law N n) l1 l2 a3 l4 l5 I J F else (if 0 = 63 then zb_X12_law_63 N (zl_X12_law N n) l1 l2 a3 l4 l5 I J F else none)) = _
  rw [if_pos rfl]
theorem ze_X12_law_63 (N : Nat) (n : Nat) (l1 : Int32) (l2 : Int32) (a3 : Nat) (l4 : Int32) (l5 : Int32) (I : Nat → Nat → Int32) (J : Nat → Nat → Int64) (F : zz_F) : zl_X12_law N (n+1) 63 l1 l2 a3 l4 l5 I J F = zb_X12_law_63 N (zl_X12_law N n) l1 l2 a3 l4 l5 I J F := by
  show (if 63 = 0 then zb_X12_law_0 N (zl_X12_law N n) l1 l2 a3 l4 l5 I J F else (if 63 = 63 then zb_X12_law_63 N (zl_X12_law N n) l1 l2 a3 l4 l5 I J F else none)) = _
  rw [if_neg (by decide), if_pos rfl]
def zf_X12_law (N : Nat)  (I : Nat → Nat → Int32) (J : Nat → Nat → Int64) (F : zz_F) : Option (Int32 × (Nat → Nat → Int32) × (Nat → Nat → Int64) × zz_F) := zl_X12_law N N 0 0 0 0 0 0 I J F
set_option maxHeartbeats 16000000 in
theorem zq_X12_law (d N : Nat) : ∀ n : Nat, (∀ (l1 : Int32) (l2 : Int32) (a3 : Nat) (l4 : Int32) (l5 : Int32) (I : Nat → Nat → Int32) (J : Nat → Nat → Int64) (F : zz_F) (r : Int32 × (Nat → Nat → Int32) × (Nat → Nat → Int64) × zz_F), zl_X12_law N n 0 l1 l2 a3 l4 l5 I J F = some r → zz_run (d+71) 300 0 [some (.ref 52), none, none, none, none, none] [] (zz_S F I J) (some (.int r.1)) (zz_S (r.2.2.2) (r.2.1) (r.2.2.1))) ∧ (∀ (l1 : Int32) (l2 : Int32) (a3 : Nat) (l4 : Int32) (l5 : Int32) (I : Nat → Nat → Int32) (J : Nat → Nat → Int64) (F : zz_F) (r : Int32 × (Nat → Nat → Int32) × (Nat → Nat → Int64) × zz_F), zl_X12_law N n 63 l1 l2 a3 l4 l5 I J F = some r → zz_run (d+71) 300 63 [some (.ref 52), some (.int l1), some (.int l2), some (.ref a3), some (.int l4), some (.int l5)] [] (zz_S F I J) (some (.int r.1)) (zz_S (r.2.2.2) (r.2.1) (r.2.2.1))) := by
  intro n
  induction n with
  | zero => exact ⟨fun _ _ _ _ _ _ _ _ _ h => zz_no h, fun _ _ _ _ _ _ _ _ _ h => zz_no h⟩
  | succ n ih =>
    obtain ⟨ih0, ih63⟩ := ih
    refine ⟨?_, ?_⟩
    · intro l1 l2 a3 l4 l5 I J F r hr
      rw [ze_X12_law_0] at hr
      unfold zb_X12_law_0 at hr
      refine zs_300_0 ?_
      refine And.intro (rfl) (And.intro (rfl) (And.intro (And.intro rfl rfl) (And.intro (rfl) (And.intro (rfl) (And.intro (Nat.le_of_ble_eq_true rfl) ?_)))))
      refine And.intro (Nat.le_of_ble_eq_true rfl) (And.intro (Nat.le_of_ble_eq_true rfl) ?_)
      obtain ⟨r1, cr1, hr⟩ := Option.bind_eq_some_iff.mp hr
      refine Exists.intro _ (Exists.intro _ (And.intro (zr_X12_readRule (d+2) N  (zz_u I 52 7 0) J F r1 cr1) ?_))
      refine And.intro (fun (h1 : ¬ r1.1 = 0) => ?_) (fun (h1 : ¬ (¬ r1.1 = 0)) => ?_)
      · rw [if_pos h1] at hr
        show zz_run _ 300 26 [some (.ref 52), some (.int (I 52 4)), none, none, none, none] [] (zz_S r1.2.2.2 r1.2.1 r1.2.2.1) _ _
        refine zs_300_26 ?_
        refine And.intro (rfl) (And.intro (Nat.le_of_ble_eq_true rfl) (And.intro (Nat.le_of_ble_eq_true rfl) (And.intro (Nat.le_of_ble_eq_true rfl) ?_)))
        obtain ⟨r2, cr2, hr⟩ := Option.bind_eq_some_iff.mp hr
        refine Exists.intro _ (Exists.intro _ (And.intro (zr_X12_whereBits r1.2.2.2 r1.2.1 r1.2.2.1 (d+70) N 0 r2 cr2) ?_))
        refine And.intro (rfl) (And.intro (Nat.le_of_ble_eq_true rfl) (And.intro (Nat.le_of_ble_eq_true rfl) (And.intro (Nat.le_of_ble_eq_true rfl) ?_)))
        obtain ⟨r3, cr3, hr⟩ := Option.bind_eq_some_iff.mp hr
        refine Exists.intro _ (Exists.intro _ (And.intro (zr_X12_shortestOf d N r2.1 r1.2.1 r1.2.2.1 r1.2.2.2 r3 cr3) ?_))
        refine And.intro (rfl) (And.intro (rfl) (And.intro (rfl) (And.intro (rfl) (And.intro (rfl) ?_))))
        refine zz_kS (zz_pRru r3.2.2.2 r3.2.1 r3.2.2.1 59) ?_
        refine And.intro (rfl) (And.intro (rfl) (And.intro (And.intro rfl rfl) ?_))
        exact zz_wk [true, true, true, true, true, true] rfl (ih63 _ _ _ _ _ _ _ _ _ hr)
      · rw [if_neg h1] at hr
        refine And.intro (rfl) ?_
        replace hr := Option.some.inj hr
        subst hr
        exact And.intro rfl (And.intro rfl rfl)
    · intro l1 l2 a3 l4 l5 I J F r hr
      rw [ze_X12_law_63] at hr
      unfold zb_X12_law_63 at hr
      refine zs_300_63 ?_
      refine And.intro (fun (h2 : l1 ≤ l5) => ?_) (fun (h2 : ¬ (l1 ≤ l5)) => ?_)
      · rw [if_pos h2] at hr
        show zz_run _ 300 89 [some (.ref 52), some (.int l1), some (.int l2), some (.ref a3), some (.int l4), some (.int l5)] [] (zz_S F I J) _ _
        refine zs_300_89 ?_
        refine And.intro (rfl) (And.intro (Nat.le_of_ble_eq_true rfl) (And.intro (Nat.le_of_ble_eq_true rfl) (And.intro (Nat.le_of_ble_eq_true rfl) ?_)))
        obtain ⟨r4, cr4, hr⟩ := Option.bind_eq_some_iff.mp hr
        refine Exists.intro _ (Exists.intro _ (And.intro (zr_X12_whereBits F I J (d+70) N 0 r4 cr4) ?_))
        refine And.intro (rfl) (And.intro (Nat.le_of_ble_eq_true rfl) (And.intro (Nat.le_of_ble_eq_true rfl) (And.intro (Nat.le_of_ble_eq_true rfl) ?_)))
        obtain ⟨r5, cr5, hr⟩ := Option.bind_eq_some_iff.mp hr
        refine Exists.intro _ (Exists.intro _ (And.intro (zr_X12_shortestOf d N r4.1 I J F r5 cr5) ?_))
        refine And.intro (rfl) (And.intro (rfl) ?_)
        refine zz_kS (zz_pRru r5.2.2.2 r5.2.1 r5.2.2.1 a3) ?_
        refine And.intro (rfl) (And.intro (rfl) (And.intro (And.intro rfl rfl) (And.intro (rfl) (And.intro (rfl) (And.intro (And.intro rfl rfl) ?_)))))
        refine And.intro (rfl) (And.intro (Nat.le_of_ble_eq_true rfl) (And.intro (Nat.le_of_ble_eq_true rfl) (And.intro (Nat.le_of_ble_eq_true rfl) ?_)))
        have g6 : ¬ (((zz_u (zz_u r5.2.1 52 16 l4) 52 6 0) 52 6) < 0 ∨ 20 ≤ ((zz_u (zz_u r5.2.1 52 16 l4) 52 6 0) 52 6).toNatClampNeg) := zz_g hr
        replace hr := zz_gt hr
        refine Exists.intro _ (Exists.intro _ (And.intro (zr_X12_tell (zz_Fru r5.2.2.2 a3) (zz_u (zz_u r5.2.1 52 16 l4) 52 6 0) r5.2.2.1 (d+70) r5.1.toInt64 g6) ?_))
        refine And.intro (rfl) (And.intro (Nat.le_of_ble_eq_true rfl) (And.intro (Nat.le_of_ble_eq_true rfl) (And.intro (Nat.le_of_ble_eq_true rfl) ?_)))
        have g7 : ¬ (((zw_X12_tell (zz_u (zz_u r5.2.1 52 16 l4) 52 6 0) r5.2.2.1 r5.1.toInt64) 52 6) < 0 ∨ 20 ≤ ((zw_X12_tell (zz_u (zz_u r5.2.1 52 16 l4) 52 6 0) r5.2.2.1 r5.1.toInt64) 52 6).toNatClampNeg) := zz_g hr
        replace hr := zz_gt hr
        obtain ⟨i8, ci8, hr⟩ := Option.bind_eq_some_iff.mp hr
        refine Exists.intro _ (Exists.intro _ (And.intro (zz_bi ci8 (zr_X12_tell (zz_Fru r5.2.2.2 a3) (zw_X12_tell (zz_u (zz_u r5.2.1 52 16 l4) 52 6 0) r5.2.2.1 r5.1.toInt64) (zx_X12_tell (zz_u (zz_u r5.2.1 52 16 l4) 52 6 0) r5.2.2.1 r5.1.toInt64) (d+70) l2.toInt64 g7)) ?_))
        replace hr := Option.some.inj hr
        subst hr
        exact And.intro rfl (And.intro rfl rfl)
      · rw [if_neg h2] at hr
        refine And.intro (rfl) (And.intro (rfl) (And.intro (Or.inl rfl) ?_))
        have g9 : ¬ (l5 < 0 ∨ 80 ≤ l5.toNatClampNeg) := zz_g hr
        replace hr := zz_gt hr
        refine And.intro (g9) ?_
        have g10 : zz_XK F.2.2.1 (zz_ru F) = 12 := zz_g hr
        replace hr := zz_gt hr
        refine And.intro (Or.inl g10) ?_
        have g11 : ¬ (l5 < 0 ∨ (zz_XL F.2.2.2.2.1 F.2.2.2.1 (zz_ru F)) ≤ l5.toNatClampNeg) := zz_g hr
        replace hr := zz_gt hr
        refine And.intro (g11) ?_
        exact zz_wk [true, true, true, true, true, true] rfl (ih63 _ _ _ _ _ _ _ _ _ hr)
theorem zr_X12_law (d N : Nat)  (I : Nat → Nat → Int32) (J : Nat → Nat → Int64) (F : zz_F) (r : Int32 × (Nat → Nat → Int32) × (Nat → Nat → Int64) × zz_F) (h : zf_X12_law N  I J F = some r) : zz_run (d+71) 300 0 [some (.ref 52), none, none, none, none, none] [] (zz_S F I J) (some (.int r.1)) (zz_S (r.2.2.2) (r.2.1) (r.2.2.1)) := (zq_X12_law d N N).1 0 0 0 0 0 I J F r h
def zb_X12_years_0 (N : Nat) (rec : Nat → Int32 → Int32 → Int32 → Int32 → Int32 → (Nat → Nat → Int32) → (Nat → Nat → Int64) → zz_F → Option (Int32 × (Nat → Nat → Int32) × (Nat → Nat → Int64) × zz_F)) (l1 : Int32) (l2 : Int32) (l3 : Int32) (l4 : Int32) (l5 : Int32) (I : Nat → Nat → Int32) (J : Nat → Nat → Int64) (F : zz_F) : Option (Int32 × (Nat → Nat → Int32) × (Nat → Nat → Int64) × zz_F) := if ¬ (zv_X12_in l2 1 60) = 0 then ((zf_X12_lay__53_63 N 0 (zz_u I 52 7 0) J).bind fun r1 => rec 37 0 l2 l1 0 0 r1.2.1 J F) else (some ((-1), zz_u I 52 7 0, J, F))
def zb_X12_years_37 (N : Nat) (rec : Nat → Int32 → Int32 → Int32 → Int32 → Int32 → (Nat → Nat → Int32) → (Nat → Nat → Int64) → zz_F → Option (Int32 × (Nat → Nat → Int32) × (Nat → Nat → Int64) × zz_F)) (l1 : Int32) (l2 : Int32) (l3 : Int32) (l4 : Int32) (l5 : Int32) (I : Nat → Nat → Int32) (J : Nat → Nat → Int64) (F : zz_F) : Option (Int32 × (Nat → Nat → Int32) × (Nat → Nat → Int64) × zz_F) := if l2 ≤ l5 then (if ¬ (((zz_u I 52 6 0) 52 6) < 0 ∨ 20 ≤ ((zz_u I 52 6 0) 52 6).toNatClampNeg) then (if ¬ (((zw_X12_tell (zz_u I 52 6 0) J l4.toInt64) 52 6) < 0 ∨ 20 ≤ ((zw_X12_tell (zz_u I 52 6 0) J l4.toInt64) 52 6).toNatClampNeg) then ((some (zw_X12_tell (zw_X12_tell (zz_u I 52 6 0) J l4.toInt64) (zx_X12_tell (zz_u I 52 6 0) J l4.toInt64) ((((zw_X12_tell (zz_u I 52 6 0) J l4.toInt64) 63 16) + ((zw_X12_tell (zz_u I 52 6 0) J l4.toInt64) 63 17)).toInt64))).bind fun i4 => some (i4 63 12, i4, zx_X12_tell (zw_X12_tell (zz_u I 52 6 0) J l4.toInt64) (zx_X12_tell (zz_u I 52 6 0) J l4.toInt64) ((((zw_X12_tell (zz_u I 52 6 0) J l4.toInt64) 63 16) + ((zw_X12_tell (zz_u I 52 6 0) J l4.toInt64) 63 17)).toInt64), F)) else none) else none) else (if ¬ (((((l3 * 1103515245) + 12345).toUInt32 >>> ((16 : Int32).toUInt32 &&& Int32.toUInt32 31)).toInt32) - ((((l3 * 1103515245) + 12345).toUInt32 >>> ((16 : Int32).toUInt32 &&& Int32.toUInt32 31)).toInt32) / 4 * 4) = 3 then (if 2 ≤ (((((l3 * 1103515245) + 12345).toUInt32 >>> ((16 : Int32).toUInt32 &&& Int32.toUInt32 31)).toInt32) - ((((l3 * 1103515245) + 12345).toUInt32 >>> ((16 : Int32).toUInt32 &&& Int32.toUInt32 31)).toInt32) / 4 * 4) then (if ¬ (I 63 13) = ((-1)) then (if ¬ (((7 * (I 63 13)) + 0) < 0 ∨ 84 ≤ ((7 * (I 63 13)) + 0).toNatClampNeg) then ((zf_X12_nextOf__63 N (1 - (zv_X12_playOf I (I 63 13))) I J).bind fun r6 => if ¬ r6.1 = ((-1)) then ((zf_X12_goPlay__63 N r6.1 I J F).bind fun r7 => rec 157 0 l2 ((l3 * 1103515245) + 12345) (l4 + 1) l5 r7.2.1 r7.2.2.1 r7.2.2.2) else (rec 157 0 l2 ((l3 * 1103515245) + 12345) l4 l5 I J F)) else none) else ((zf_X12_nextOf__63 N 0 I J).bind fun r8 => if ¬ r8.1 = ((-1)) then ((zf_X12_goPlay__63 N r8.1 I J F).bind fun r9 => rec 157 0 l2 ((l3 * 1103515245) + 12345) (l4 + 1) l5 r9.2.1 r9.2.2.1 r9.2.2.2) else (rec 157 0 l2 ((l3 * 1103515245) + 12345) l4 l5 I J F))) else ((zf_X12_nextOf__63 N (((((l3 * 1103515245) + 12345).toUInt32 >>> ((16 : Int32).toUInt32 &&& Int32.toUInt32 31)).toInt32) - ((((l3 * 1103515245) + 12345).toUInt32 >>> ((16 : Int32).toUInt32 &&& Int32.toUInt32 31)).toInt32) / 4 * 4) I J).bind fun r10 => if ¬ r10.1 = ((-1)) then ((zf_X12_goPlay__63 N r10.1 I J F).bind fun r11 => rec 157 0 l2 ((l3 * 1103515245) + 12345) (l4 + 1) l5 r11.2.1 r11.2.2.1 r11.2.2.2) else (rec 157 0 l2 ((l3 * 1103515245) + 12345) l4 l5 I J F))) else (rec 157 0 l2 ((l3 * 1103515245) + 12345) l4 l5 (zz_u I 63 12 ((I 63 12) + 1)) J F))
def zb_X12_years_157 (N : Nat) (rec : Nat → Int32 → Int32 → Int32 → Int32 → Int32 → (Nat → Nat → Int32) → (Nat → Nat → Int64) → zz_F → Option (Int32 × (Nat → Nat → Int32) × (Nat → Nat → Int64) × zz_F)) (l1 : Int32) (l2 : Int32) (l3 : Int32) (l4 : Int32) (l5 : Int32) (I : Nat → Nat → Int32) (J : Nat → Nat → Int64) (F : zz_F) : Option (Int32 × (Nat → Nat → Int32) × (Nat → Nat → Int64) × zz_F) := rec 37 0 l2 l3 l4 (l5 + 1) I J F
def zl_X12_years (N : Nat) : Nat → Nat → Int32 → Int32 → Int32 → Int32 → Int32 → (Nat → Nat → Int32) → (Nat → Nat → Int64) → zz_F → Option (Int32 × (Nat → Nat → Int32) × (Nat → Nat → Int64) × zz_F)
  | 0 => fun _ _ _ _ _ _ _ _ _ => none
  | n + 1 => fun pc l1 l2 l3 l4 l5 I J F => if pc = 0 then zb_X12_years_0 N (zl_X12_years N n) l1 l2 l3 l4 l5 I J F else (if pc = 37 then zb_X12_years_37 N (zl_X12_years N n) l1 l2 l3 l4 l5 I J F else (if pc = 157 then zb_X12_years_157 N (zl_X12_years N n) l1 l2 l3 l4 l5 I J F else none))
theorem ze_X12_years_0 (N : Nat) (n : Nat) (l1 : Int32) (l2 : Int32) (l3 : Int32) (l4 : Int32) (l5 : Int32) (I : Nat → Nat → Int32) (J : Nat → Nat → Int64) (F : zz_F) : zl_X12_years N (n+1) 0 l1 l2 l3 l4 l5 I J F = zb_X12_years_0 N (zl_X12_years N n) l1 l2 l3 l4 l5 I J F := by
  show (if 0 = 0 then zb_X12_years_0 N (zl_X12_years N n) l1 l2 l3 l4 l5 I J F else (if 0 = 37 then zb_X12_years_37 N (zl_X12_years N n) l1 l2 l3 l4 l5 I J F else (if 0 = 157 then zb_X12_years_157 N (zl_X12_years N n) l1 l2 l3 l4 l5 I J F else none))) = _
  rw [if_pos rfl]
theorem ze_X12_years_37 (N : Nat) (n : Nat) (l1 : Int32) (l2 : Int32) (l3 : Int32) (l4 : Int32) (l5 : Int32) (I : Nat → Nat → Int32) (J : Nat → Nat → Int64) (F : zz_F) : zl_X12_years N (n+1) 37 l1 l2 l3 l4 l5 I J F = zb_X12_years_37 N (zl_X12_years N n) l1 l2 l3 l4 l5 I J F := by
  show (if 37 = 0 then zb_X12_years_0 N (zl_X12_years N n) l1 l2 l3 l4 l5 I J F else (if 37 = 37 then zb_X12_years_37 N (zl_X12_years N n) l1 l2 l3 l4 l5 I J F else (if 37 = 157 then zb_X12_years_157 N (zl_X12_years N n) l1 l2 l3 l4 l5 I J F else none))) = _
  rw [if_neg (by decide), if_pos rfl]
theorem ze_X12_years_157 (N : Nat) (n : Nat) (l1 : Int32) (l2 : Int32) (l3 : Int32) (l4 : Int32) (l5 : Int32) (I : Nat → Nat → Int32) (J : Nat → Nat → Int64) (F : zz_F) : zl_X12_years N (n+1) 157 l1 l2 l3 l4 l5 I J F = zb_X12_years_157 N (zl_X12_years N n) l1 l2 l3 l4 l5 I J F := by
  show (if 157 = 0 then zb_X12_years_0 N (zl_X12_years N n) l1 l2 l3 l4 l5 I J F else (if 157 = 37 then zb_X12_years_37 N (zl_X12_years N n) l1 l2 l3 l4 l5 I J F else (if 157 = 157 then zb_X12_years_157 N (zl_X12_years N n) l1 l2 l3 l4 l5 I J F else none))) = _
  rw [if_neg (by decide), if_neg (by decide), if_pos rfl]
def zf_X12_years (N : Nat) (l1 : Int32) (l2 : Int32) (I : Nat → Nat → Int32) (J : Nat → Nat → Int64) (F : zz_F) : Option (Int32 × (Nat → Nat → Int32) × (Nat → Nat → Int64) × zz_F) := zl_X12_years N N 0 l1 l2 0 0 0 I J F
set_option maxHeartbeats 16000000 in
theorem zq_X12_years (d N : Nat) : ∀ n : Nat, (∀ (l1 : Int32) (l2 : Int32) (l3 : Int32) (l4 : Int32) (l5 : Int32) (I : Nat → Nat → Int32) (J : Nat → Nat → Int64) (F : zz_F) (r : Int32 × (Nat → Nat → Int32) × (Nat → Nat → Int64) × zz_F), zl_X12_years N n 0 l1 l2 l3 l4 l5 I J F = some r → zz_run (d+71) 301 0 [some (.ref 52), some (.int l1), some (.int l2), none, none, none, none, none, none] [] (zz_S F I J) (some (.int r.1)) (zz_S (r.2.2.2) (r.2.1) (r.2.2.1))) ∧ (∀ (l1 : Int32) (l2 : Int32) (l3 : Int32) (l4 : Int32) (l5 : Int32) (I : Nat → Nat → Int32) (J : Nat → Nat → Int64) (F : zz_F) (r : Int32 × (Nat → Nat → Int32) × (Nat → Nat → Int64) × zz_F), zl_X12_years N n 37 l1 l2 l3 l4 l5 I J F = some r → zz_run (d+71) 301 37 [some (.ref 52), none, some (.int l2), some (.int l3), some (.int l4), some (.int l5), none, none, none] [] (zz_S F I J) (some (.int r.1)) (zz_S (r.2.2.2) (r.2.1) (r.2.2.1))) ∧ (∀ (l1 : Int32) (l2 : Int32) (l3 : Int32) (l4 : Int32) (l5 : Int32) (I : Nat → Nat → Int32) (J : Nat → Nat → Int64) (F : zz_F) (r : Int32 × (Nat → Nat → Int32) × (Nat → Nat → Int64) × zz_F), zl_X12_years N n 157 l1 l2 l3 l4 l5 I J F = some r → zz_run (d+71) 301 157 [some (.ref 52), none, some (.int l2), some (.int l3), some (.int l4), some (.int l5), none, none, none] [] (zz_S F I J) (some (.int r.1)) (zz_S (r.2.2.2) (r.2.1) (r.2.2.1))) := by
  intro n
  induction n with
  | zero => exact ⟨fun _ _ _ _ _ _ _ _ _ h => zz_no h, fun _ _ _ _ _ _ _ _ _ h => zz_no h, fun _ _ _ _ _ _ _ _ _ h => zz_no h⟩
  | succ n ih =>
    obtain ⟨ih0, ih37, ih157⟩ := ih
    refine ⟨?_, ?_, ?_⟩
    · intro l1 l2 l3 l4 l5 I J F r hr
      rw [ze_X12_years_0] at hr
      unfold zb_X12_years_0 at hr
      refine zs_301_0 ?_
      refine And.intro (rfl) (And.intro (rfl) (And.intro (And.intro rfl rfl) (And.intro (Nat.le_of_ble_eq_true rfl) (And.intro (Nat.le_of_ble_eq_true rfl) (And.intro (Nat.le_of_ble_eq_true rfl) ?_)))))
      refine Exists.intro _ (Exists.intro _ (And.intro (zr_X12_in F (zz_u I 52 7 0) J (d+70) l2 1 60) ?_))
      refine And.intro (fun (h1 : ¬ (zv_X12_in l2 1 60) = 0) => ?_) (fun (h1 : ¬ (¬ (zv_X12_in l2 1 60) = 0)) => ?_)
      · rw [if_pos h1] at hr
        show zz_run _ 301 17 [some (.ref 52), some (.int l1), some (.int l2), none, none, none, none, none, none] [] (zz_S F (zz_u I 52 7 0) J) _ _
        refine zs_301_17 ?_
        refine And.intro (rfl) (And.intro (rfl) (And.intro (Nat.le_of_ble_eq_true rfl) (And.intro (Nat.le_of_ble_eq_true rfl) (And.intro (Nat.le_of_ble_eq_true rfl) ?_))))
        obtain ⟨r1, cr1, hr⟩ := Option.bind_eq_some_iff.mp hr
        refine Exists.intro _ (Exists.intro _ (And.intro (zr_X12_lay__53_63 F (zz_u I 52 7 0) J (d+70) N 0 r1 cr1) ?_))
        exact zz_wk [true, false, true, true, true, true, false, false, false] rfl (ih37 _ _ _ _ _ _ _ _ _ hr)
      · rw [if_neg h1] at hr
        replace hr := Option.some.inj hr
        subst hr
        exact And.intro rfl (And.intro rfl rfl)
    · intro l1 l2 l3 l4 l5 I J F r hr
      rw [ze_X12_years_37] at hr
      unfold zb_X12_years_37 at hr
      refine zs_301_37 ?_
      refine And.intro (fun (h2 : l2 ≤ l5) => ?_) (fun (h2 : ¬ (l2 ≤ l5)) => ?_)
      · rw [if_pos h2] at hr
        show zz_run _ 301 163 [some (.ref 52), none, some (.int l2), some (.int l3), some (.int l4), some (.int l5), none, none, none] [] (zz_S F I J) _ _
        refine zs_301_163 ?_
        refine And.intro (rfl) (And.intro (rfl) (And.intro (And.intro rfl rfl) (And.intro (rfl) (And.intro (Nat.le_of_ble_eq_true rfl) (And.intro (Nat.le_of_ble_eq_true rfl) ?_)))))
        refine And.intro (Nat.le_of_ble_eq_true rfl) ?_
        have g2 : ¬ (((zz_u I 52 6 0) 52 6) < 0 ∨ 20 ≤ ((zz_u I 52 6 0) 52 6).toNatClampNeg) := zz_g hr
        replace hr := zz_gt hr
        refine Exists.intro _ (Exists.intro _ (And.intro (zr_X12_tell F (zz_u I 52 6 0) J (d+70) l4.toInt64 g2) ?_))
        refine And.intro (rfl) (And.intro (Or.inl rfl) (And.intro (zz_vk (k := 16) rfl rfl) (And.intro (rfl) (And.intro (Or.inl rfl) (And.intro (zz_vk (k := 17) rfl rfl) ?_)))))
        refine And.intro (rfl) (And.intro (Nat.le_of_ble_eq_true rfl) (And.intro (Nat.le_of_ble_eq_true rfl) (And.intro (Nat.le_of_ble_eq_true rfl) ?_)))
        have g3 : ¬ (((zw_X12_tell (zz_u I 52 6 0) J l4.toInt64) 52 6) < 0 ∨ 20 ≤ ((zw_X12_tell (zz_u I 52 6 0) J l4.toInt64) 52 6).toNatClampNeg) := zz_g hr
        replace hr := zz_gt hr
        obtain ⟨i4, ci4, hr⟩ := Option.bind_eq_some_iff.mp hr
        refine Exists.intro _ (Exists.intro _ (And.intro (zz_bi ci4 (zr_X12_tell F (zw_X12_tell (zz_u I 52 6 0) J l4.toInt64) (zx_X12_tell (zz_u I 52 6 0) J l4.toInt64) (d+70) ((((zw_X12_tell (zz_u I 52 6 0) J l4.toInt64) 63 16) + ((zw_X12_tell (zz_u I 52 6 0) J l4.toInt64) 63 17)).toInt64) g3)) ?_))
        refine And.intro (rfl) (And.intro (Or.inl rfl) (And.intro (zz_vk (k := 12) rfl rfl) ?_))
        replace hr := Option.some.inj hr
        subst hr
        exact And.intro rfl (And.intro rfl rfl)
      · rw [if_neg h2] at hr
        refine And.intro ((by decide : ¬ (4 : Int32) = 0)) (And.intro (fun (h3 : ¬ (((((l3 * 1103515245) + 12345).toUInt32 >>> ((16 : Int32).toUInt32 &&& Int32.toUInt32 31)).toInt32) - ((((l3 * 1103515245) + 12345).toUInt32 >>> ((16 : Int32).toUInt32 &&& Int32.toUInt32 31)).toInt32) / 4 * 4) = 3) => ?_) (fun (h3 : ¬ (¬ (((((l3 * 1103515245) + 12345).toUInt32 >>> ((16 : Int32).toUInt32 &&& Int32.toUInt32 31)).toInt32) - ((((l3 * 1103515245) + 12345).toUInt32 >>> ((16 : Int32).toUInt32 &&& Int32.toUInt32 31)).toInt32) / 4 * 4) = 3)) => ?_))
        · rw [if_pos h3] at hr
          show zz_run _ 301 81 [some (.ref 52), none, some (.int l2), some (.int ((l3 * 1103515245) + 12345)), some (.int l4), some (.int l5), some (.int (((((l3 * 1103515245) + 12345).toUInt32 >>> ((16 : Int32).toUInt32 &&& Int32.toUInt32 31)).toInt32) - ((((l3 * 1103515245) + 12345).toUInt32 >>> ((16 : Int32).toUInt32 &&& Int32.toUInt32 31)).toInt32) / 4 * 4)), none, none] [] (zz_S F I J) _ _
          refine zs_301_81 ?_
          refine And.intro (fun (h4 : 2 ≤ (((((l3 * 1103515245) + 12345).toUInt32 >>> ((16 : Int32).toUInt32 &&& Int32.toUInt32 31)).toInt32) - ((((l3 * 1103515245) + 12345).toUInt32 >>> ((16 : Int32).toUInt32 &&& Int32.toUInt32 31)).toInt32) / 4 * 4)) => ?_) (fun (h4 : ¬ (2 ≤ (((((l3 * 1103515245) + 12345).toUInt32 >>> ((16 : Int32).toUInt32 &&& Int32.toUInt32 31)).toInt32) - ((((l3 * 1103515245) + 12345).toUInt32 >>> ((16 : Int32).toUInt32 &&& Int32.toUInt32 31)).toInt32) / 4 * 4))) => ?_)
          · rw [if_pos h4] at hr
            show zz_run _ 301 92 [some (.ref 52), none, some (.int l2), some (.int ((l3 * 1103515245) + 12345)), some (.int l4), some (.int l5), some (.int (((((l3 * 1103515245) + 12345).toUInt32 >>> ((16 : Int32).toUInt32 &&& Int32.toUInt32 31)).toInt32) - ((((l3 * 1103515245) + 12345).toUInt32 >>> ((16 : Int32).toUInt32 &&& Int32.toUInt32 31)).toInt32) / 4 * 4)), none, none] [] (zz_S F I J) _ _
            refine zs_301_92 ?_
            refine And.intro (rfl) (And.intro (Or.inl rfl) (And.intro (zz_vk (k := 13) rfl rfl) (And.intro (fun (h5 : ¬ (I 63 13) = ((-1))) => ?_) (fun (h5 : ¬ (¬ (I 63 13) = ((-1)))) => ?_))))
            · rw [if_pos h5] at hr
              show zz_run _ 301 107 [some (.ref 52), none, some (.int l2), some (.int ((l3 * 1103515245) + 12345)), some (.int l4), some (.int l5), some (.int (((((l3 * 1103515245) + 12345).toUInt32 >>> ((16 : Int32).toUInt32 &&& Int32.toUInt32 31)).toInt32) - ((((l3 * 1103515245) + 12345).toUInt32 >>> ((16 : Int32).toUInt32 &&& Int32.toUInt32 31)).toInt32) / 4 * 4)), none, none] [] (zz_S F I J) _ _
              refine zs_301_107 ?_
              refine And.intro (rfl) (And.intro (Or.inl rfl) (And.intro (zz_vk (k := 13) rfl rfl) (And.intro (rfl) (And.intro (Nat.le_of_ble_eq_true rfl) (And.intro (Nat.le_of_ble_eq_true rfl) ?_)))))
              refine And.intro (Nat.le_of_ble_eq_true rfl) ?_
              have g5 : ¬ (((7 * (I 63 13)) + 0) < 0 ∨ 84 ≤ ((7 * (I 63 13)) + 0).toNatClampNeg) := zz_g hr
              replace hr := zz_gt hr
              refine Exists.intro _ (Exists.intro _ (And.intro (zr_X12_playOf F I J (d+69) (I 63 13) g5) ?_))
              show zz_run _ 301 120 [some (.ref 52), none, some (.int l2), some (.int ((l3 * 1103515245) + 12345)), some (.int l4), some (.int l5), some (.int (((((l3 * 1103515245) + 12345).toUInt32 >>> ((16 : Int32).toUInt32 &&& Int32.toUInt32 31)).toInt32) - ((((l3 * 1103515245) + 12345).toUInt32 >>> ((16 : Int32).toUInt32 &&& Int32.toUInt32 31)).toInt32) / 4 * 4)), none, none] [.int (1 - (zv_X12_playOf I (I 63 13)))] (zz_S F I J) _ _
              refine zs_301_120 ?_
              refine And.intro (rfl) (And.intro (rfl) (And.intro (Nat.le_of_ble_eq_true rfl) (And.intro (Nat.le_of_ble_eq_true rfl) (And.intro (Nat.le_of_ble_eq_true rfl) ?_))))
              obtain ⟨r6, cr6, hr⟩ := Option.bind_eq_some_iff.mp hr
              refine Exists.intro _ (Exists.intro _ (And.intro (zr_X12_nextOf__63 F I J (d+68) N (1 - (zv_X12_playOf I (I 63 13))) r6 cr6) ?_))
              refine And.intro (fun (h6 : ¬ r6.1 = ((-1))) => ?_) (fun (h6 : ¬ (¬ r6.1 = ((-1)))) => ?_)
              · rw [if_pos h6] at hr
                show zz_run _ 301 143 [some (.ref 52), none, some (.int l2), some (.int ((l3 * 1103515245) + 12345)), some (.int l4), some (.int l5), some (.int (((((l3 * 1103515245) + 12345).toUInt32 >>> ((16 : Int32).toUInt32 &&& Int32.toUInt32 31)).toInt32) - ((((l3 * 1103515245) + 12345).toUInt32 >>> ((16 : Int32).toUInt32 &&& Int32.toUInt32 31)).toInt32) / 4 * 4)), some (.int (1 - (zv_X12_playOf I (I 63 13)))), some (.int r6.1)] [] (zz_S F I J) _ _
                refine zs_301_143 ?_
                refine And.intro (rfl) (And.intro (rfl) (And.intro (Nat.le_of_ble_eq_true rfl) (And.intro (Nat.le_of_ble_eq_true rfl) (And.intro (Nat.le_of_ble_eq_true rfl) ?_))))
                obtain ⟨r7, cr7, hr⟩ := Option.bind_eq_some_iff.mp hr
                refine Exists.intro _ (Exists.intro _ (And.intro (zr_X12_goPlay__63 d N r6.1 I J F r7 cr7) ?_))
                refine And.intro (rfl) ?_
                exact zz_wk [true, false, true, true, true, true, false, false, false] rfl (ih157 _ _ _ _ _ _ _ _ _ hr)
              · rw [if_neg h6] at hr
                exact zz_wk [true, false, true, true, true, true, false, false, false] rfl (ih157 _ _ _ _ _ _ _ _ _ hr)
            · rw [if_neg h5] at hr
              show zz_run _ 301 120 [some (.ref 52), none, some (.int l2), some (.int ((l3 * 1103515245) + 12345)), some (.int l4), some (.int l5), some (.int (((((l3 * 1103515245) + 12345).toUInt32 >>> ((16 : Int32).toUInt32 &&& Int32.toUInt32 31)).toInt32) - ((((l3 * 1103515245) + 12345).toUInt32 >>> ((16 : Int32).toUInt32 &&& Int32.toUInt32 31)).toInt32) / 4 * 4)), none, none] [.int 0] (zz_S F I J) _ _
              refine zs_301_120 ?_
              refine And.intro (rfl) (And.intro (rfl) (And.intro (Nat.le_of_ble_eq_true rfl) (And.intro (Nat.le_of_ble_eq_true rfl) (And.intro (Nat.le_of_ble_eq_true rfl) ?_))))
              obtain ⟨r8, cr8, hr⟩ := Option.bind_eq_some_iff.mp hr
              refine Exists.intro _ (Exists.intro _ (And.intro (zr_X12_nextOf__63 F I J (d+68) N 0 r8 cr8) ?_))
              refine And.intro (fun (h7 : ¬ r8.1 = ((-1))) => ?_) (fun (h7 : ¬ (¬ r8.1 = ((-1)))) => ?_)
              · rw [if_pos h7] at hr
                show zz_run _ 301 143 [some (.ref 52), none, some (.int l2), some (.int ((l3 * 1103515245) + 12345)), some (.int l4), some (.int l5), some (.int (((((l3 * 1103515245) + 12345).toUInt32 >>> ((16 : Int32).toUInt32 &&& Int32.toUInt32 31)).toInt32) - ((((l3 * 1103515245) + 12345).toUInt32 >>> ((16 : Int32).toUInt32 &&& Int32.toUInt32 31)).toInt32) / 4 * 4)), some (.int 0), some (.int r8.1)] [] (zz_S F I J) _ _
                refine zs_301_143 ?_
                refine And.intro (rfl) (And.intro (rfl) (And.intro (Nat.le_of_ble_eq_true rfl) (And.intro (Nat.le_of_ble_eq_true rfl) (And.intro (Nat.le_of_ble_eq_true rfl) ?_))))
                obtain ⟨r9, cr9, hr⟩ := Option.bind_eq_some_iff.mp hr
                refine Exists.intro _ (Exists.intro _ (And.intro (zr_X12_goPlay__63 d N r8.1 I J F r9 cr9) ?_))
                refine And.intro (rfl) ?_
                exact zz_wk [true, false, true, true, true, true, false, false, false] rfl (ih157 _ _ _ _ _ _ _ _ _ hr)
              · rw [if_neg h7] at hr
                exact zz_wk [true, false, true, true, true, true, false, false, false] rfl (ih157 _ _ _ _ _ _ _ _ _ hr)
          · rw [if_neg h4] at hr
            show zz_run _ 301 120 [some (.ref 52), none, some (.int l2), some (.int ((l3 * 1103515245) + 12345)), some (.int l4), some (.int l5), some (.int (((((l3 * 1103515245) + 12345).toUInt32 >>> ((16 : Int32).toUInt32 &&& Int32.toUInt32 31)).toInt32) - ((((l3 * 1103515245) + 12345).toUInt32 >>> ((16 : Int32).toUInt32 &&& Int32.toUInt32 31)).toInt32) / 4 * 4)), none, none] [.int (((((l3 * 1103515245) + 12345).toUInt32 >>> ((16 : Int32).toUInt32 &&& Int32.toUInt32 31)).toInt32) - ((((l3 * 1103515245) + 12345).toUInt32 >>> ((16 : Int32).toUInt32 &&& Int32.toUInt32 31)).toInt32) / 4 * 4)] (zz_S F I J) _ _
            refine zs_301_120 ?_
            refine And.intro (rfl) (And.intro (rfl) (And.intro (Nat.le_of_ble_eq_true rfl) (And.intro (Nat.le_of_ble_eq_true rfl) (And.intro (Nat.le_of_ble_eq_true rfl) ?_))))
            obtain ⟨r10, cr10, hr⟩ := Option.bind_eq_some_iff.mp hr
            refine Exists.intro _ (Exists.intro _ (And.intro (zr_X12_nextOf__63 F I J (d+68) N (((((l3 * 1103515245) + 12345).toUInt32 >>> ((16 : Int32).toUInt32 &&& Int32.toUInt32 31)).toInt32) - ((((l3 * 1103515245) + 12345).toUInt32 >>> ((16 : Int32).toUInt32 &&& Int32.toUInt32 31)).toInt32) / 4 * 4) r10 cr10) ?_))
            refine And.intro (fun (h8 : ¬ r10.1 = ((-1))) => ?_) (fun (h8 : ¬ (¬ r10.1 = ((-1)))) => ?_)
            · rw [if_pos h8] at hr
              show zz_run _ 301 143 [some (.ref 52), none, some (.int l2), some (.int ((l3 * 1103515245) + 12345)), some (.int l4), some (.int l5), some (.int (((((l3 * 1103515245) + 12345).toUInt32 >>> ((16 : Int32).toUInt32 &&& Int32.toUInt32 31)).toInt32) - ((((l3 * 1103515245) + 12345).toUInt32 >>> ((16 : Int32).toUInt32 &&& Int32.toUInt32 31)).toInt32) / 4 * 4)), some (.int (((((l3 * 1103515245) + 12345).toUInt32 >>> ((16 : Int32).toUInt32 &&& Int32.toUInt32 31)).toInt32) - ((((l3 * 1103515245) + 12345).toUInt32 >>> ((16 : Int32).toUInt32 &&& Int32.toUInt32 31)).toInt32) / 4 * 4)), some (.int r10.1)] [] (zz_S F I J) _ _
              refine zs_301_143 ?_
              refine And.intro (rfl) (And.intro (rfl) (And.intro (Nat.le_of_ble_eq_true rfl) (And.intro (Nat.le_of_ble_eq_true rfl) (And.intro (Nat.le_of_ble_eq_true rfl) ?_))))
              obtain ⟨r11, cr11, hr⟩ := Option.bind_eq_some_iff.mp hr
              refine Exists.intro _ (Exists.intro _ (And.intro (zr_X12_goPlay__63 d N r10.1 I J F r11 cr11) ?_))
              refine And.intro (rfl) ?_
              exact zz_wk [true, false, true, true, true, true, false, false, false] rfl (ih157 _ _ _ _ _ _ _ _ _ hr)
            · rw [if_neg h8] at hr
              exact zz_wk [true, false, true, true, true, true, false, false, false] rfl (ih157 _ _ _ _ _ _ _ _ _ hr)
        · rw [if_neg h3] at hr
          refine And.intro (rfl) (And.intro (rfl) (And.intro (rfl) (And.intro (Or.inl rfl) (And.intro (zz_vk (k := 12) rfl rfl) (And.intro (rfl) ?_)))))
          refine And.intro (zz_vk (k := 12) rfl rfl) ?_
          exact zz_wk [true, false, true, true, true, true, false, false, false] rfl (ih157 _ _ _ _ _ _ _ _ _ hr)
    · intro l1 l2 l3 l4 l5 I J F r hr
      rw [ze_X12_years_157] at hr
      unfold zb_X12_years_157 at hr
      refine zs_301_157 ?_
      exact zz_wk [true, false, true, true, true, true, false, false, false] rfl (ih37 _ _ _ _ _ _ _ _ _ hr)
theorem zr_X12_years (d N : Nat) (l1 : Int32) (l2 : Int32) (I : Nat → Nat → Int32) (J : Nat → Nat → Int64) (F : zz_F) (r : Int32 × (Nat → Nat → Int32) × (Nat → Nat → Int64) × zz_F) (h : zf_X12_years N l1 l2 I J F = some r) : zz_run (d+71) 301 0 [some (.ref 52), some (.int l1), some (.int l2), none, none, none, none, none, none] [] (zz_S F I J) (some (.int r.1)) (zz_S (r.2.2.2) (r.2.1) (r.2.2.1)) := (zq_X12_years d N N).1 l1 l2 0 0 0 I J F r h
def zb_X7_faultIn_X3__3_0 (N : Nat) (rec : Nat → Int32 → Int32 → Int32 → Int32 → (Nat → Nat → Int32) → (Nat → Nat → Int64) → Option (Int32 × (Nat → Nat → Int32) × (Nat → Nat → Int64))) (l2 : Int32) (l3 : Int32) (l4 : Int32) (l5 : Int32) (I : Nat → Nat → Int32) (J : Nat → Nat → Int64) : Option (Int32 × (Nat → Nat → Int32) × (Nat → Nat → Int64)) := rec 19 l2 l3 (zz_min l2 (zz_min l3 (nI 80))) 0 (zw_X3_begin I) J
def zb_X7_faultIn_X3__3_19 (N : Nat) (rec : Nat → Int32 → Int32 → Int32 → Int32 → (Nat → Nat → Int32) → (Nat → Nat → Int64) → Option (Int32 × (Nat → Nat → Int32) × (Nat → Nat → Int64))) (l2 : Int32) (l3 : Int32) (l4 : Int32) (l5 : Int32) (I : Nat → Nat → Int32) (J : Nat → Nat → Int64) : Option (Int32 × (Nat → Nat → Int32) × (Nat → Nat → Int64)) := if l4 ≤ l5 then (if l2 ≤ l3 then (if (zv_X3_mayEnd I) = 0 then (some (l4, I, J)) else (some ((-1), I, J))) else (some (l3, I, J))) else (if ¬ (l5 < 0 ∨ 80 ≤ l5.toNatClampNeg) then ((zf_X3_takes N (I 3 l5.toNatClampNeg) I J).bind fun r2 => if ¬ r2.1 = 0 then (rec 19 l2 l3 l4 (l5 + 1) r2.2.1 J) else (some (l5, r2.2.1, J))) else none)
def zl_X7_faultIn_X3__3 (N : Nat) : Nat → Nat → Int32 → Int32 → Int32 → Int32 → (Nat → Nat → Int32) → (Nat → Nat → Int64) → Option (Int32 × (Nat → Nat → Int32) × (Nat → Nat → Int64))
  | 0 => fun _ _ _ _ _ _ _ => none
  | n + 1 => fun pc l2 l3 l4 l5 I J => if pc = 0 then zb_X7_faultIn_X3__3_0 N (zl_X7_faultIn_X3__3 N n) l2 l3 l4 l5 I J else (if pc = 19 then zb_X7_faultIn_X3__3_19 N (zl_X7_faultIn_X3__3 N n) l2 l3 l4 l5 I J else none)
theorem ze_X7_faultIn_X3__3_0 (N : Nat) (n : Nat) (l2 : Int32) (l3 : Int32) (l4 : Int32) (l5 : Int32) (I : Nat → Nat → Int32) (J : Nat → Nat → Int64) : zl_X7_faultIn_X3__3 N (n+1) 0 l2 l3 l4 l5 I J = zb_X7_faultIn_X3__3_0 N (zl_X7_faultIn_X3__3 N n) l2 l3 l4 l5 I J := by
  show (if 0 = 0 then zb_X7_faultIn_X3__3_0 N (zl_X7_faultIn_X3__3 N n) l2 l3 l4 l5 I J else (if 0 = 19 then zb_X7_faultIn_X3__3_19 N (zl_X7_faultIn_X3__3 N n) l2 l3 l4 l5 I J else none)) = _
  rw [if_pos rfl]
theorem ze_X7_faultIn_X3__3_19 (N : Nat) (n : Nat) (l2 : Int32) (l3 : Int32) (l4 : Int32) (l5 : Int32) (I : Nat → Nat → Int32) (J : Nat → Nat → Int64) : zl_X7_faultIn_X3__3 N (n+1) 19 l2 l3 l4 l5 I J = zb_X7_faultIn_X3__3_19 N (zl_X7_faultIn_X3__3 N n) l2 l3 l4 l5 I J := by
  show (if 19 = 0 then zb_X7_faultIn_X3__3_0 N (zl_X7_faultIn_X3__3 N n) l2 l3 l4 l5 I J else (if 19 = 19 then zb_X7_faultIn_X3__3_19 N (zl_X7_faultIn_X3__3 N n) l2 l3 l4 l5 I J else none)) = _
  rw [if_neg (by decide), if_pos rfl]
def zf_X7_faultIn_X3__3 (N : Nat) (l2 : Int32) (l3 : Int32) (I : Nat → Nat → Int32) (J : Nat → Nat → Int64) : Option (Int32 × (Nat → Nat → Int32) × (Nat → Nat → Int64)) := zl_X7_faultIn_X3__3 N N 0 l2 l3 0 0 I J
set_option maxHeartbeats 16000000 in
theorem zq_X7_faultIn_X3__3 (F : zz_F) (d N : Nat) : ∀ n : Nat, (∀ (l2 : Int32) (l3 : Int32) (l4 : Int32) (l5 : Int32) (I : Nat → Nat → Int32) (J : Nat → Nat → Int64) (r : Int32 × (Nat → Nat → Int32) × (Nat → Nat → Int64)), zl_X7_faultIn_X3__3 N n 0 l2 l3 l4 l5 I J = some r → zz_run (d+4) 312 0 [some (.ref 36), some (.ref 3), some (.int l2), some (.int l3), none, none] [] (zz_S F I J) (some (.int r.1)) (zz_S F (r.2.1) J)) ∧ (∀ (l2 : Int32) (l3 : Int32) (l4 : Int32) (l5 : Int32) (I : Nat → Nat → Int32) (J : Nat → Nat → Int64) (r : Int32 × (Nat → Nat → Int32) × (Nat → Nat → Int64)), zl_X7_faultIn_X3__3 N n 19 l2 l3 l4 l5 I J = some r → zz_run (d+4) 312 19 [some (.ref 36), some (.ref 3), some (.int l2), some (.int l3), some (.int l4), some (.int l5)] [] (zz_S F I J) (some (.int r.1)) (zz_S F (r.2.1) J)) := by
  intro n
  induction n with
  | zero => exact ⟨fun _ _ _ _ _ _ _ h => zz_no h, fun _ _ _ _ _ _ _ h => zz_no h⟩
  | succ n ih =>
    obtain ⟨ih0, ih19⟩ := ih
    refine ⟨?_, ?_⟩
    · intro l2 l3 l4 l5 I J r hr
      rw [ze_X7_faultIn_X3__3_0] at hr
      unfold zb_X7_faultIn_X3__3_0 at hr
      refine zs_312_0 ?_
      refine And.intro (rfl) (And.intro (Nat.le_of_ble_eq_true rfl) (And.intro (Nat.le_of_ble_eq_true rfl) (And.intro (Nat.le_of_ble_eq_true rfl) ?_)))
      refine Exists.intro _ (Exists.intro _ (And.intro (zr_X3_begin F I J (d+3) ) ?_))
      refine And.intro (Nat.le_of_ble_eq_true rfl) (And.intro (Nat.le_of_ble_eq_true rfl) (And.intro (Nat.le_of_ble_eq_true rfl) (And.intro (Nat.le_of_ble_eq_true rfl) (And.intro (Nat.le_of_ble_eq_true rfl) ?_))))
      refine Exists.intro _ (Exists.intro _ (And.intro (zr_min F (zw_X3_begin I) J (d+3) l3 (nI 80)) ?_))
      refine And.intro (Nat.le_of_ble_eq_true rfl) (And.intro (Nat.le_of_ble_eq_true rfl) (And.intro (Nat.le_of_ble_eq_true rfl) ?_))
      refine Exists.intro _ (Exists.intro _ (And.intro (zr_min F (zw_X3_begin I) J (d+3) l2 (zz_min l3 (nI 80))) ?_))
      exact zz_wk [true, true, true, true, true, true] rfl (ih19 _ _ _ _ _ _ _ hr)
    · intro l2 l3 l4 l5 I J r hr
      rw [ze_X7_faultIn_X3__3_19] at hr
      unfold zb_X7_faultIn_X3__3_19 at hr
      refine zs_312_19 ?_
      refine And.intro (fun (h1 : l4 ≤ l5) => ?_) (fun (h1 : ¬ (l4 ≤ l5)) => ?_)
      · rw [if_pos h1] at hr
        show zz_run _ 312 46 [some (.ref 36), some (.ref 3), some (.int l2), some (.int l3), some (.int l4), some (.int l5)] [] (zz_S F I J) _ _
        refine zs_312_46 ?_
        refine And.intro (fun (h2 : l2 ≤ l3) => ?_) (fun (h2 : ¬ (l2 ≤ l3)) => ?_)
        · rw [if_pos h2] at hr
          show zz_run _ 312 53 [some (.ref 36), some (.ref 3), some (.int l2), some (.int l3), some (.int l4), some (.int l5)] [] (zz_S F I J) _ _
          refine zs_312_53 ?_
          refine And.intro (rfl) (And.intro (Nat.le_of_ble_eq_true rfl) (And.intro (Nat.le_of_ble_eq_true rfl) (And.intro (Nat.le_of_ble_eq_true rfl) ?_)))
          refine Exists.intro _ (Exists.intro _ (And.intro (zr_X3_mayEnd F I J (d+3) ) ?_))
          refine And.intro (fun (h3 : (zv_X3_mayEnd I) = 0) => ?_) (fun (h3 : ¬ ((zv_X3_mayEnd I) = 0)) => ?_)
          · rw [if_pos h3] at hr
            show zz_run _ 312 64 [some (.ref 36), some (.ref 3), some (.int l2), some (.int l3), some (.int l4), some (.int l5)] [] (zz_S F I J) _ _
            refine zs_312_64 ?_
            show zz_run _ 312 66 [some (.ref 36), some (.ref 3), some (.int l2), some (.int l3), some (.int l4), some (.int l5)] [.int l4] (zz_S F I J) _ _
            refine zs_312_66 ?_
            replace hr := Option.some.inj hr
            subst hr
            exact And.intro rfl (And.intro rfl rfl)
          · rw [if_neg h3] at hr
            show zz_run _ 312 66 [some (.ref 36), some (.ref 3), some (.int l2), some (.int l3), some (.int l4), some (.int l5)] [.int ((-1))] (zz_S F I J) _ _
            refine zs_312_66 ?_
            replace hr := Option.some.inj hr
            subst hr
            exact And.intro rfl (And.intro rfl rfl)
        · rw [if_neg h2] at hr
          replace hr := Option.some.inj hr
          subst hr
          exact And.intro rfl (And.intro rfl rfl)
      · rw [if_neg h1] at hr
        refine And.intro (rfl) ?_
        have g1 : ¬ (l5 < 0 ∨ 80 ≤ l5.toNatClampNeg) := zz_g hr
        replace hr := zz_gt hr
        refine And.intro (g1) (And.intro (rfl) (And.intro (Nat.le_of_ble_eq_true rfl) (And.intro (Nat.le_of_ble_eq_true rfl) (And.intro (Nat.le_of_ble_eq_true rfl) ?_))))
        obtain ⟨r2, cr2, hr⟩ := Option.bind_eq_some_iff.mp hr
        refine Exists.intro _ (Exists.intro _ (And.intro (zr_X3_takes F I J d N (I 3 l5.toNatClampNeg) r2 cr2) ?_))
        refine And.intro (fun (h4 : ¬ r2.1 = 0) => ?_) (fun (h4 : ¬ (¬ r2.1 = 0)) => ?_)
        · rw [if_pos h4] at hr
          show zz_run _ 312 40 [some (.ref 36), some (.ref 3), some (.int l2), some (.int l3), some (.int l4), some (.int l5)] [] (zz_S F r2.2.1 J) _ _
          refine zs_312_40 ?_
          exact zz_wk [true, true, true, true, true, true] rfl (ih19 _ _ _ _ _ _ _ hr)
        · rw [if_neg h4] at hr
          replace hr := Option.some.inj hr
          subst hr
          exact And.intro rfl (And.intro rfl rfl)
theorem zr_X7_faultIn_X3__3 (F : zz_F) (I : Nat → Nat → Int32) (J : Nat → Nat → Int64) (d N : Nat) (l2 : Int32) (l3 : Int32) (r : Int32 × (Nat → Nat → Int32) × (Nat → Nat → Int64)) (h : zf_X7_faultIn_X3__3 N l2 l3 I J = some r) : zz_run (d+4) 312 0 [some (.ref 36), some (.ref 3), some (.int l2), some (.int l3), none, none] [] (zz_S F I J) (some (.int r.1)) (zz_S F (r.2.1) J) := (zq_X7_faultIn_X3__3 F d N N).1 l2 l3 0 0 I J r h
def zb_X12_goWeaves_0 (N : Nat) (call : Nat → Int32 → Int32 → Int32 → Int32 → (Nat → Nat → Int32) → (Nat → Nat → Int64) → zz_F → Option (Int32 × (Nat → Nat → Int32) × (Nat → Nat → Int64) × zz_F)) (rec : Nat → Int32 → Int32 → Int32 → Int32 → Int32 → Int32 → Int32 → (Nat → Nat → Int32) → (Nat → Nat → Int64) → zz_F → Option (Int32 × (Nat → Nat → Int32) × (Nat → Nat → Int64) × zz_F)) (l1 : Int32) (l2 : Int32) (l3 : Int32) (l4 : Int32) (l5 : Int32) (l6 : Int32) (l7 : Int32) (I : Nat → Nat → Int32) (J : Nat → Nat → Int64) (F : zz_F) : Option (Int32 × (Nat → Nat → Int32) × (Nat → Nat → Int64) × zz_F) := if ¬ (l3 < 0 ∨ 13 ≤ l3.toNatClampNeg) then (if ¬ l1 = 0 then (rec 32 l1 l2 l3 l4 0 0 0 (zz_u I 68 l3.toNatClampNeg (zz_min (I 68 l3.toNatClampNeg) l4)) J F) else ((zf_X12_endWeave N l3 l4 (zz_u I 68 l3.toNatClampNeg (zz_min (I 68 l3.toNatClampNeg) l4)) J).bind fun r2 => some (0, r2.2.1, J, F))) else none
def zb_X12_goWeaves_32 (N : Nat) (call : Nat → Int32 → Int32 → Int32 → Int32 → (Nat → Nat → Int32) → (Nat → Nat → Int64) → zz_F → Option (Int32 × (Nat → Nat → Int32) × (Nat → Nat → Int64) × zz_F)) (rec : Nat → Int32 → Int32 → Int32 → Int32 → Int32 → Int32 → Int32 → (Nat → Nat → Int32) → (Nat → Nat → Int64) → zz_F → Option (Int32 × (Nat → Nat → Int32) × (Nat → Nat → Int64) × zz_F)) (l1 : Int32) (l2 : Int32) (l3 : Int32) (l4 : Int32) (l5 : Int32) (l6 : Int32) (l7 : Int32) (I : Nat → Nat → Int32) (J : Nat → Nat → Int64) (F : zz_F) : Option (Int32 × (Nat → Nat → Int32) × (Nat → Nat → Int64) × zz_F) := if 2 ≤ l5 then (some (0, I, J, F)) else ((zf_X12_ofPlay N l1 l5 I J).bind fun r3 => (zf_X12_firstOf N r3.1 I J).bind fun r4 => if ¬ r4.1 = ((-1)) then (if ¬ l2 = ((-1)) then ((zf_X12_changeOf N l2 r4.1 I J F).bind fun r5 => if ¬ (((7 * r4.1) + 1) < 0 ∨ 84 ≤ ((7 * r4.1) + 1).toNatClampNeg) then (if ¬ (r4.1 < 0 ∨ 12 ≤ r4.1.toNatClampNeg) then (if ((l4 + r5.1) + (zv_X12_field r5.2.1 r4.1 1)) < (r5.2.1 70 r4.1.toNatClampNeg) then (rec 123 l1 l2 l3 l4 l5 r4.1 ((l4 + r5.1) + (zv_X12_field r5.2.1 r4.1 1)) r5.2.1 r5.2.2.1 r5.2.2.2) else (if ¬ ((l4 + r5.1) + (zv_X12_field r5.2.1 r4.1 1)) = (r5.2.1 70 r4.1.toNatClampNeg) then (rec 140 l1 l2 l3 l4 l5 r4.1 ((l4 + r5.1) + (zv_X12_field r5.2.1 r4.1 1)) r5.2.1 r5.2.2.1 r5.2.2.2) else (if (r5.2.1 71 r4.1.toNatClampNeg) ≤ l3 then (rec 140 l1 l2 l3 l4 l5 r4.1 ((l4 + r5.1) + (zv_X12_field r5.2.1 r4.1 1)) r5.2.1 r5.2.2.1 r5.2.2.2) else (rec 123 l1 l2 l3 l4 l5 r4.1 ((l4 + r5.1) + (zv_X12_field r5.2.1 r4.1 1)) r5.2.1 r5.2.2.1 r5.2.2.2)))) else none) else none) else (if ¬ (((7 * r4.1) + 1) < 0 ∨ 84 ≤ ((7 * r4.1) + 1).toNatClampNeg) then (if ¬ (r4.1 < 0 ∨ 12 ≤ r4.1.toNatClampNeg) then (if ((l4 + 0) + (zv_X12_field I r4.1 1)) < (I 70 r4.1.toNatClampNeg) then (rec 123 l1 l2 l3 l4 l5 r4.1 ((l4 + 0) + (zv_X12_field I r4.1 1)) I J F) else (if ¬ ((l4 + 0) + (zv_X12_field I r4.1 1)) = (I 70 r4.1.toNatClampNeg) then (rec 140 l1 l2 l3 l4 l5 r4.1 ((l4 + 0) + (zv_X12_field I r4.1 1)) I J F) else (if (I 71 r4.1.toNatClampNeg) ≤ l3 then (rec 140 l1 l2 l3 l4 l5 r4.1 ((l4 + 0) + (zv_X12_field I r4.1 1)) I J F) else (rec 123 l1 l2 l3 l4 l5 r4.1 ((l4 + 0) + (zv_X12_field I r4.1 1)) I J F)))) else none) else none)) else (rec 194 l1 l2 l3 l4 l5 0 0 I J F))
def zb_X12_goWeaves_123 (N : Nat) (call : Nat → Int32 → Int32 → Int32 → Int32 → (Nat → Nat → Int32) → (Nat → Nat → Int64) → zz_F → Option (Int32 × (Nat → Nat → Int32) × (Nat → Nat → Int64) × zz_F)) (rec : Nat → Int32 → Int32 → Int32 → Int32 → Int32 → Int32 → Int32 → (Nat → Nat → Int32) → (Nat → Nat → Int64) → zz_F → Option (Int32 × (Nat → Nat → Int32) × (Nat → Nat → Int64) × zz_F)) (l1 : Int32) (l2 : Int32) (l3 : Int32) (l4 : Int32) (l5 : Int32) (l6 : Int32) (l7 : Int32) (I : Nat → Nat → Int32) (J : Nat → Nat → Int64) (F : zz_F) : Option (Int32 × (Nat → Nat → Int32) × (Nat → Nat → Int64) × zz_F) := if ¬ (l6 < 0 ∨ 12 ≤ l6.toNatClampNeg) then (rec 140 l1 l2 l3 l4 l5 l6 l7 (zz_u (zz_u I 70 l6.toNatClampNeg l7) 71 l6.toNatClampNeg l3) J F) else none
def zb_X12_goWeaves_140 (N : Nat) (call : Nat → Int32 → Int32 → Int32 → Int32 → (Nat → Nat → Int32) → (Nat → Nat → Int64) → zz_F → Option (Int32 × (Nat → Nat → Int32) × (Nat → Nat → Int64) × zz_F)) (rec : Nat → Int32 → Int32 → Int32 → Int32 → Int32 → Int32 → Int32 → (Nat → Nat → Int32) → (Nat → Nat → Int64) → zz_F → Option (Int32 × (Nat → Nat → Int32) × (Nat → Nat → Int64) × zz_F)) (l1 : Int32) (l2 : Int32) (l3 : Int32) (l4 : Int32) (l5 : Int32) (l6 : Int32) (l7 : Int32) (I : Nat → Nat → Int32) (J : Nat → Nat → Int64) (F : zz_F) : Option (Int32 × (Nat → Nat → Int32) × (Nat → Nat → Int64) × zz_F) := if ¬ (l5 < 0 ∨ 2 ≤ l5.toNatClampNeg) then (if ¬ (l3 < 0 ∨ 12 ≤ l3.toNatClampNeg) then ((call 0 (l1 &&& (((1 : Int32) <<< (l6 &&& 31)) ^^^ ((-1)))) l6 (l3 + 1) l7 (zz_u (zz_u I 65 l3.toNatClampNeg l5) 67 l5.toNatClampNeg l7) J F).bind fun r12 => rec 194 l1 l2 l3 l4 l5 0 0 (zz_u r12.2.1 67 l5.toNatClampNeg (I 67 l5.toNatClampNeg)) r12.2.2.1 r12.2.2.2) else none) else none
def zb_X12_goWeaves_194 (N : Nat) (call : Nat → Int32 → Int32 → Int32 → Int32 → (Nat → Nat → Int32) → (Nat → Nat → Int64) → zz_F → Option (Int32 × (Nat → Nat → Int32) × (Nat → Nat → Int64) × zz_F)) (rec : Nat → Int32 → Int32 → Int32 → Int32 → Int32 → Int32 → Int32 → (Nat → Nat → Int32) → (Nat → Nat → Int64) → zz_F → Option (Int32 × (Nat → Nat → Int32) × (Nat → Nat → Int64) × zz_F)) (l1 : Int32) (l2 : Int32) (l3 : Int32) (l4 : Int32) (l5 : Int32) (l6 : Int32) (l7 : Int32) (I : Nat → Nat → Int32) (J : Nat → Nat → Int64) (F : zz_F) : Option (Int32 × (Nat → Nat → Int32) × (Nat → Nat → Int64) × zz_F) := rec 32 l1 l2 l3 l4 (l5 + 1) 0 0 I J F
def zl_X12_goWeaves (N : Nat) (call : Nat → Int32 → Int32 → Int32 → Int32 → (Nat → Nat → Int32) → (Nat → Nat → Int64) → zz_F → Option (Int32 × (Nat → Nat → Int32) × (Nat → Nat → Int64) × zz_F)) : Nat → Nat → Int32 → Int32 → Int32 → Int32 → Int32 → Int32 → Int32 → (Nat → Nat → Int32) → (Nat → Nat → Int64) → zz_F → Option (Int32 × (Nat → Nat → Int32) × (Nat → Nat → Int64) × zz_F)
  | 0 => fun _ _ _ _ _ _ _ _ _ _ _ => none
  | n + 1 => fun pc l1 l2 l3 l4 l5 l6 l7 I J F => if pc = 0 then zb_X12_goWeaves_0 N call (zl_X12_goWeaves N call n) l1 l2 l3 l4 l5 l6 l7 I J F else (if pc = 32 then zb_X12_goWeaves_32 N call (zl_X12_goWeaves N call n) l1 l2 l3 l4 l5 l6 l7 I J F else (if pc = 123 then zb_X12_goWeaves_123 N call (zl_X12_goWeaves N call n) l1 l2 l3 l4 l5 l6 l7 I J F else (if pc = 140 then zb_X12_goWeaves_140 N call (zl_X12_goWeaves N call n) l1 l2 l3 l4 l5 l6 l7 I J F else (if pc = 194 then zb_X12_goWeaves_194 N call (zl_X12_goWeaves N call n) l1 l2 l3 l4 l5 l6 l7 I J F else none))))
theorem ze_X12_goWeaves_0 (N : Nat) (call : Nat → Int32 → Int32 → Int32 → Int32 → (Nat → Nat → Int32) → (Nat → Nat → Int64) → zz_F → Option (Int32 × (Nat → Nat → Int32) × (Nat → Nat → Int64) × zz_F)) (n : Nat) (l1 : Int32) (l2 : Int32) (l3 : Int32) (l4 : Int32) (l5 : Int32) (l6 : Int32) (l7 : Int32) (I : Nat → Nat → Int32) (J : Nat → Nat → Int64) (F : zz_F) : zl_X12_goWeaves N call (n+1) 0 l1 l2 l3 l4 l5 l6 l7 I J F = zb_X12_goWeaves_0 N call (zl_X12_goWeaves N call n) l1 l2 l3 l4 l5 l6 l7 I J F := by
  show (if 0 = 0 then zb_X12_goWeaves_0 N call (zl_X12_goWeaves N call n) l1 l2 l3 l4 l5 l6 l7 I J F else (if 0 = 32 then zb_X12_goWeaves_32 N call (zl_X12_goWeaves N call n) l1 l2 l3 l4 l5 l6 l7 I J F else (if 0 = 123 then zb_X12_goWeaves_123 N call (zl_X12_goWeaves N call n) l1 l2 l3 l4 l5 l6 l7 I J F else (if 0 = 140 then zb_X12_goWeaves_140 N call (zl_X12_goWeaves N call n) l1 l2 l3 l4 l5 l6 l7 I J F else (if 0 = 194 then zb_X12_goWeaves_194 N call (zl_X12_goWeaves N call n) l1 l2 l3 l4 l5 l6 l7 I J F else none))))) = _
  rw [if_pos rfl]
theorem ze_X12_goWeaves_32 (N : Nat) (call : Nat → Int32 → Int32 → Int32 → Int32 → (Nat → Nat → Int32) → (Nat → Nat → Int64) → zz_F → Option (Int32 × (Nat → Nat → Int32) × (Nat → Nat → Int64) × zz_F)) (n : Nat) (l1 : Int32) (l2 : Int32) (l3 : Int32) (l4 : Int32) (l5 : Int32) (l6 : Int32) (l7 : Int32) (I : Nat → Nat → Int32) (J : Nat → Nat → Int64) (F : zz_F) : zl_X12_goWeaves N call (n+1) 32 l1 l2 l3 l4 l5 l6 l7 I J F = zb_X12_goWeaves_32 N call (zl_X12_goWeaves N call n) l1 l2 l3 l4 l5 l6 l7 I J F := by
  show (if 32 = 0 then zb_X12_goWeaves_0 N call (zl_X12_goWeaves N call n) l1 l2 l3 l4 l5 l6 l7 I J F else (if 32 = 32 then zb_X12_goWeaves_32 N call (zl_X12_goWeaves N call n) l1 l2 l3 l4 l5 l6 l7 I J F else (if 32 = 123 then zb_X12_goWeaves_123 N call (zl_X12_goWeaves N call n) l1 l2 l3 l4 l5 l6 l7 I J F else (if 32 = 140 then zb_X12_goWeaves_140 N call (zl_X12_goWeaves N call n) l1 l2 l3 l4 l5 l6 l7 I J F else (if 32 = 194 then zb_X12_goWeaves_194 N call (zl_X12_goWeaves N call n) l1 l2 l3 l4 l5 l6 l7 I J F else none))))) = _
  rw [if_neg (by decide), if_pos rfl]
theorem ze_X12_goWeaves_123 (N : Nat) (call : Nat → Int32 → Int32 → Int32 → Int32 → (Nat → Nat → Int32) → (Nat → Nat → Int64) → zz_F → Option (Int32 × (Nat → Nat → Int32) × (Nat → Nat → Int64) × zz_F)) (n : Nat) (l1 : Int32) (l2 : Int32) (l3 : Int32) (l4 : Int32) (l5 : Int32) (l6 : Int32) (l7 : Int32) (I : Nat → Nat → Int32) (J : Nat → Nat → Int64) (F : zz_F) : zl_X12_goWeaves N call (n+1) 123 l1 l2 l3 l4 l5 l6 l7 I J F = zb_X12_goWeaves_123 N call (zl_X12_goWeaves N call n) l1 l2 l3 l4 l5 l6 l7 I J F := by
  show (if 123 = 0 then zb_X12_goWeaves_0 N call (zl_X12_goWeaves N call n) l1 l2 l3 l4 l5 l6 l7 I J F else (if 123 = 32 then zb_X12_goWeaves_32 N call (zl_X12_goWeaves N call n) l1 l2 l3 l4 l5 l6 l7 I J F else (if 123 = 123 then zb_X12_goWeaves_123 N call (zl_X12_goWeaves N call n) l1 l2 l3 l4 l5 l6 l7 I J F else (if 123 = 140 then zb_X12_goWeaves_140 N call (zl_X12_goWeaves N call n) l1 l2 l3 l4 l5 l6 l7 I J F else (if 123 = 194 then zb_X12_goWeaves_194 N call (zl_X12_goWeaves N call n) l1 l2 l3 l4 l5 l6 l7 I J F else none))))) = _
  rw [if_neg (by decide), if_neg (by decide), if_pos rfl]
theorem ze_X12_goWeaves_140 (N : Nat) (call : Nat → Int32 → Int32 → Int32 → Int32 → (Nat → Nat → Int32) → (Nat → Nat → Int64) → zz_F → Option (Int32 × (Nat → Nat → Int32) × (Nat → Nat → Int64) × zz_F)) (n : Nat) (l1 : Int32) (l2 : Int32) (l3 : Int32) (l4 : Int32) (l5 : Int32) (l6 : Int32) (l7 : Int32) (I : Nat → Nat → Int32) (J : Nat → Nat → Int64) (F : zz_F) : zl_X12_goWeaves N call (n+1) 140 l1 l2 l3 l4 l5 l6 l7 I J F = zb_X12_goWeaves_140 N call (zl_X12_goWeaves N call n) l1 l2 l3 l4 l5 l6 l7 I J F := by
  show (if 140 = 0 then zb_X12_goWeaves_0 N call (zl_X12_goWeaves N call n) l1 l2 l3 l4 l5 l6 l7 I J F else (if 140 = 32 then zb_X12_goWeaves_32 N call (zl_X12_goWeaves N call n) l1 l2 l3 l4 l5 l6 l7 I J F else (if 140 = 123 then zb_X12_goWeaves_123 N call (zl_X12_goWeaves N call n) l1 l2 l3 l4 l5 l6 l7 I J F else (if 140 = 140 then zb_X12_goWeaves_140 N call (zl_X12_goWeaves N call n) l1 l2 l3 l4 l5 l6 l7 I J F else (if 140 = 194 then zb_X12_goWeaves_194 N call (zl_X12_goWeaves N call n) l1 l2 l3 l4 l5 l6 l7 I J F else none))))) = _
  rw [if_neg (by decide), if_neg (by decide), if_neg (by decide), if_pos rfl]
theorem ze_X12_goWeaves_194 (N : Nat) (call : Nat → Int32 → Int32 → Int32 → Int32 → (Nat → Nat → Int32) → (Nat → Nat → Int64) → zz_F → Option (Int32 × (Nat → Nat → Int32) × (Nat → Nat → Int64) × zz_F)) (n : Nat) (l1 : Int32) (l2 : Int32) (l3 : Int32) (l4 : Int32) (l5 : Int32) (l6 : Int32) (l7 : Int32) (I : Nat → Nat → Int32) (J : Nat → Nat → Int64) (F : zz_F) : zl_X12_goWeaves N call (n+1) 194 l1 l2 l3 l4 l5 l6 l7 I J F = zb_X12_goWeaves_194 N call (zl_X12_goWeaves N call n) l1 l2 l3 l4 l5 l6 l7 I J F := by
  show (if 194 = 0 then zb_X12_goWeaves_0 N call (zl_X12_goWeaves N call n) l1 l2 l3 l4 l5 l6 l7 I J F else (if 194 = 32 then zb_X12_goWeaves_32 N call (zl_X12_goWeaves N call n) l1 l2 l3 l4 l5 l6 l7 I J F else (if 194 = 123 then zb_X12_goWeaves_123 N call (zl_X12_goWeaves N call n) l1 l2 l3 l4 l5 l6 l7 I J F else (if 194 = 140 then zb_X12_goWeaves_140 N call (zl_X12_goWeaves N call n) l1 l2 l3 l4 l5 l6 l7 I J F else (if 194 = 194 then zb_X12_goWeaves_194 N call (zl_X12_goWeaves N call n) l1 l2 l3 l4 l5 l6 l7 I J F else none))))) = _
  rw [if_neg (by decide), if_neg (by decide), if_neg (by decide), if_neg (by decide), if_pos rfl]
def zf_X12_goWeaves (N : Nat) (call : Nat → Int32 → Int32 → Int32 → Int32 → (Nat → Nat → Int32) → (Nat → Nat → Int64) → zz_F → Option (Int32 × (Nat → Nat → Int32) × (Nat → Nat → Int64) × zz_F)) (l1 : Int32) (l2 : Int32) (l3 : Int32) (l4 : Int32) (I : Nat → Nat → Int32) (J : Nat → Nat → Int64) (F : zz_F) : Option (Int32 × (Nat → Nat → Int32) × (Nat → Nat → Int64) × zz_F) := zl_X12_goWeaves N call N 0 l1 l2 l3 l4 0 0 0 I J F
set_option maxHeartbeats 16000000 in
theorem zq_X12_goWeaves (d N : Nat) (call : Nat → Int32 → Int32 → Int32 → Int32 → (Nat → Nat → Int32) → (Nat → Nat → Int64) → zz_F → Option (Int32 × (Nat → Nat → Int32) × (Nat → Nat → Int64) × zz_F)) (hc0 : ∀ (x0 : Int32) (x1 : Int32) (x2 : Int32) (x3 : Int32) (I : Nat → Nat → Int32) (J : Nat → Nat → Int64) (F : zz_F) (r : Int32 × (Nat → Nat → Int32) × (Nat → Nat → Int64) × zz_F), call 0 x0 x1 x2 x3 I J F = some r → zz_run (d+68) 257 0 [some (.ref 52), some (.int x0), some (.int x1), some (.int x2), some (.int x3), none, none, none, none] [] (zz_S F I J) none (zz_S r.2.2.2 r.2.1 r.2.2.1)) : ∀ n : Nat, (∀ (l1 : Int32) (l2 : Int32) (l3 : Int32) (l4 : Int32) (l5 : Int32) (l6 : Int32) (l7 : Int32) (I : Nat → Nat → Int32) (J : Nat → Nat → Int64) (F : zz_F) (r : Int32 × (Nat → Nat → Int32) × (Nat → Nat → Int64) × zz_F), zl_X12_goWeaves N call n 0 l1 l2 l3 l4 l5 l6 l7 I J F = some r → zz_run (d+69) 257 0 [some (.ref 52), some (.int l1), some (.int l2), some (.int l3), some (.int l4), none, none, none, none] [] (zz_S F I J) none (zz_S (r.2.2.2) (r.2.1) (r.2.2.1))) ∧ (∀ (l1 : Int32) (l2 : Int32) (l3 : Int32) (l4 : Int32) (l5 : Int32) (l6 : Int32) (l7 : Int32) (I : Nat → Nat → Int32) (J : Nat → Nat → Int64) (F : zz_F) (r : Int32 × (Nat → Nat → Int32) × (Nat → Nat → Int64) × zz_F), zl_X12_goWeaves N call n 32 l1 l2 l3 l4 l5 l6 l7 I J F = some r → zz_run (d+69) 257 32 [some (.ref 52), some (.int l1), some (.int l2), some (.int l3), some (.int l4), some (.int l5), none, none, none] [] (zz_S F I J) none (zz_S (r.2.2.2) (r.2.1) (r.2.2.1))) ∧ (∀ (l1 : Int32) (l2 : Int32) (l3 : Int32) (l4 : Int32) (l5 : Int32) (l6 : Int32) (l7 : Int32) (I : Nat → Nat → Int32) (J : Nat → Nat → Int64) (F : zz_F) (r : Int32 × (Nat → Nat → Int32) × (Nat → Nat → Int64) × zz_F), zl_X12_goWeaves N call n 123 l1 l2 l3 l4 l5 l6 l7 I J F = some r → zz_run (d+69) 257 123 [some (.ref 52), some (.int l1), some (.int l2), some (.int l3), some (.int l4), some (.int l5), some (.int l6), some (.int l7), none] [] (zz_S F I J) none (zz_S (r.2.2.2) (r.2.1) (r.2.2.1))) ∧ (∀ (l1 : Int32) (l2 : Int32) (l3 : Int32) (l4 : Int32) (l5 : Int32) (l6 : Int32) (l7 : Int32) (I : Nat → Nat → Int32) (J : Nat → Nat → Int64) (F : zz_F) (r : Int32 × (Nat → Nat → Int32) × (Nat → Nat → Int64) × zz_F), zl_X12_goWeaves N call n 140 l1 l2 l3 l4 l5 l6 l7 I J F = some r → zz_run (d+69) 257 140 [some (.ref 52), some (.int l1), some (.int l2), some (.int l3), some (.int l4), some (.int l5), some (.int l6), some (.int l7), none] [] (zz_S F I J) none (zz_S (r.2.2.2) (r.2.1) (r.2.2.1))) ∧ (∀ (l1 : Int32) (l2 : Int32) (l3 : Int32) (l4 : Int32) (l5 : Int32) (l6 : Int32) (l7 : Int32) (I : Nat → Nat → Int32) (J : Nat → Nat → Int64) (F : zz_F) (r : Int32 × (Nat → Nat → Int32) × (Nat → Nat → Int64) × zz_F), zl_X12_goWeaves N call n 194 l1 l2 l3 l4 l5 l6 l7 I J F = some r → zz_run (d+69) 257 194 [some (.ref 52), some (.int l1), some (.int l2), some (.int l3), some (.int l4), some (.int l5), none, none, none] [] (zz_S F I J) none (zz_S (r.2.2.2) (r.2.1) (r.2.2.1))) := by
  intro n
  induction n with
  | zero => exact ⟨fun _ _ _ _ _ _ _ _ _ _ _ h => zz_no h, fun _ _ _ _ _ _ _ _ _ _ _ h => zz_no h, fun _ _ _ _ _ _ _ _ _ _ _ h => zz_no h, fun _ _ _ _ _ _ _ _ _ _ _ h => zz_no h, fun _ _ _ _ _ _ _ _ _ _ _ h => zz_no h⟩
  | succ n ih =>
    obtain ⟨ih0, ih32, ih123, ih140, ih194⟩ := ih
    refine ⟨?_, ?_, ?_, ?_, ?_⟩
    · intro l1 l2 l3 l4 l5 l6 l7 I J F r hr
      rw [ze_X12_goWeaves_0] at hr
      unfold zb_X12_goWeaves_0 at hr
      refine zs_257_0 ?_
      refine And.intro (rfl) (And.intro (rfl) (And.intro (Or.inl rfl) ?_))
      have g1 : ¬ (l3 < 0 ∨ 13 ≤ l3.toNatClampNeg) := zz_g hr
      replace hr := zz_gt hr
      refine And.intro (g1) (And.intro (Nat.le_of_ble_eq_true rfl) (And.intro (Nat.le_of_ble_eq_true rfl) (And.intro (Nat.le_of_ble_eq_true rfl) ?_)))
      refine Exists.intro _ (Exists.intro _ (And.intro (zr_min F I J (d+68) (I 68 l3.toNatClampNeg) l4) ?_))
      refine And.intro (rfl) (And.intro (g1) (And.intro (fun (h1 : ¬ l1 = 0) => ?_) (fun (h1 : ¬ (¬ l1 = 0)) => ?_)))
      · rw [if_pos h1] at hr
        show zz_run _ 257 29 [some (.ref 52), some (.int l1), some (.int l2), some (.int l3), some (.int l4), none, none, none, none] [] (zz_S F (zz_u I 68 l3.toNatClampNeg (zz_min (I 68 l3.toNatClampNeg) l4)) J) _ _
        refine zs_257_29 ?_
        exact zz_wk [true, true, true, true, true, true, false, false, false] rfl (ih32 _ _ _ _ _ _ _ _ _ _ _ hr)
      · rw [if_neg h1] at hr
        refine And.intro (rfl) (And.intro (Nat.le_of_ble_eq_true rfl) (And.intro (Nat.le_of_ble_eq_true rfl) (And.intro (Nat.le_of_ble_eq_true rfl) ?_)))
        obtain ⟨r2, cr2, hr⟩ := Option.bind_eq_some_iff.mp hr
        refine Exists.intro _ (Exists.intro _ (And.intro (zr_X12_endWeave F (zz_u I 68 l3.toNatClampNeg (zz_min (I 68 l3.toNatClampNeg) l4)) J (d+67) N l3 l4 r2 cr2) ?_))
        replace hr := Option.some.inj hr
        subst hr
        exact And.intro rfl (And.intro rfl rfl)
    · intro l1 l2 l3 l4 l5 l6 l7 I J F r hr
      rw [ze_X12_goWeaves_32] at hr
      unfold zb_X12_goWeaves_32 at hr
      refine zs_257_32 ?_
      refine And.intro (fun (h2 : 2 ≤ l5) => ?_) (fun (h2 : ¬ (2 ≤ l5)) => ?_)
      · rw [if_pos h2] at hr
        show zz_run _ 257 200 [some (.ref 52), some (.int l1), some (.int l2), some (.int l3), some (.int l4), some (.int l5), none, none, none] [] (zz_S F I J) _ _
        refine zs_257_200 ?_
        replace hr := Option.some.inj hr
        subst hr
        exact And.intro rfl (And.intro rfl rfl)
      · rw [if_neg h2] at hr
        refine And.intro (rfl) (And.intro (Nat.le_of_ble_eq_true rfl) (And.intro (Nat.le_of_ble_eq_true rfl) (And.intro (Nat.le_of_ble_eq_true rfl) ?_)))
        obtain ⟨r3, cr3, hr⟩ := Option.bind_eq_some_iff.mp hr
        refine Exists.intro _ (Exists.intro _ (And.intro (zr_X12_ofPlay F I J (d+66) N l1 l5 r3 cr3) ?_))
        refine And.intro (Nat.le_of_ble_eq_true rfl) (And.intro (Nat.le_of_ble_eq_true rfl) (And.intro (Nat.le_of_ble_eq_true rfl) ?_))
        obtain ⟨r4, cr4, hr⟩ := Option.bind_eq_some_iff.mp hr
        refine Exists.intro _ (Exists.intro _ (And.intro (zr_X12_firstOf F I J (d+67) N r3.1 r4 cr4) ?_))
        refine And.intro (fun (h3 : ¬ r4.1 = ((-1))) => ?_) (fun (h3 : ¬ (¬ r4.1 = ((-1)))) => ?_)
        · rw [if_pos h3] at hr
          show zz_run _ 257 59 [some (.ref 52), some (.int l1), some (.int l2), some (.int l3), some (.int l4), some (.int l5), some (.int r4.1), none, none] [] (zz_S F I J) _ _
          refine zs_257_59 ?_
          refine And.intro (fun (h4 : ¬ l2 = ((-1))) => ?_) (fun (h4 : ¬ (¬ l2 = ((-1)))) => ?_)
          · rw [if_pos h4] at hr
            show zz_run _ 257 70 [some (.ref 52), some (.int l1), some (.int l2), some (.int l3), some (.int l4), some (.int l5), some (.int r4.1), none, none] [.int l4] (zz_S F I J) _ _
            refine zs_257_70 ?_
            refine And.intro (rfl) (And.intro (Nat.le_of_ble_eq_true rfl) (And.intro (Nat.le_of_ble_eq_true rfl) (And.intro (Nat.le_of_ble_eq_true rfl) ?_)))
            obtain ⟨r5, cr5, hr⟩ := Option.bind_eq_some_iff.mp hr
            refine Exists.intro _ (Exists.intro _ (And.intro (zr_X12_changeOf d N l2 r4.1 I J F r5 cr5) ?_))
            show zz_run _ 257 77 [some (.ref 52), some (.int l1), some (.int l2), some (.int l3), some (.int l4), some (.int l5), some (.int r4.1), none, none] [.int r5.1, .int l4] (zz_S r5.2.2.2 r5.2.1 r5.2.2.1) _ _
            refine zs_257_77 ?_
            refine And.intro (rfl) (And.intro (Nat.le_of_ble_eq_true rfl) (And.intro (Nat.le_of_ble_eq_true rfl) (And.intro (Nat.le_of_ble_eq_true rfl) ?_)))
            have g6 : ¬ (((7 * r4.1) + 1) < 0 ∨ 84 ≤ ((7 * r4.1) + 1).toNatClampNeg) := zz_g hr
            replace hr := zz_gt hr
            refine Exists.intro _ (Exists.intro _ (And.intro (zr_X12_field r5.2.2.2 r5.2.1 r5.2.2.1 (d+68) r4.1 1 g6) ?_))
            refine And.intro (rfl) (And.intro (Or.inl rfl) ?_)
            have g7 : ¬ (r4.1 < 0 ∨ 12 ≤ r4.1.toNatClampNeg) := zz_g hr
            replace hr := zz_gt hr
            refine And.intro (g7) (And.intro (fun (h5 : ((l4 + r5.1) + (zv_X12_field r5.2.1 r4.1 1)) < (r5.2.1 70 r4.1.toNatClampNeg)) => ?_) (fun (h5 : ¬ (((l4 + r5.1) + (zv_X12_field r5.2.1 r4.1 1)) < (r5.2.1 70 r4.1.toNatClampNeg))) => ?_))
            · rw [if_pos h5] at hr
              exact zz_wk [true, true, true, true, true, true, true, true, false] rfl (ih123 _ _ _ _ _ _ _ _ _ _ _ hr)
            · rw [if_neg h5] at hr
              refine And.intro (rfl) (And.intro (Or.inl rfl) (And.intro (g7) (And.intro (fun (h6 : ¬ ((l4 + r5.1) + (zv_X12_field r5.2.1 r4.1 1)) = (r5.2.1 70 r4.1.toNatClampNeg)) => ?_) (fun (h6 : ¬ (¬ ((l4 + r5.1) + (zv_X12_field r5.2.1 r4.1 1)) = (r5.2.1 70 r4.1.toNatClampNeg))) => ?_))))
              · rw [if_pos h6] at hr
                exact zz_wk [true, true, true, true, true, true, true, true, false] rfl (ih140 _ _ _ _ _ _ _ _ _ _ _ hr)
              · rw [if_neg h6] at hr
                refine And.intro (rfl) (And.intro (Or.inl rfl) (And.intro (g7) (And.intro (fun (h7 : (r5.2.1 71 r4.1.toNatClampNeg) ≤ l3) => ?_) (fun (h7 : ¬ ((r5.2.1 71 r4.1.toNatClampNeg) ≤ l3)) => ?_))))
                · rw [if_pos h7] at hr
                  exact zz_wk [true, true, true, true, true, true, true, true, false] rfl (ih140 _ _ _ _ _ _ _ _ _ _ _ hr)
                · rw [if_neg h7] at hr
                  exact zz_wk [true, true, true, true, true, true, true, true, false] rfl (ih123 _ _ _ _ _ _ _ _ _ _ _ hr)
          · rw [if_neg h4] at hr
            show zz_run _ 257 77 [some (.ref 52), some (.int l1), some (.int l2), some (.int l3), some (.int l4), some (.int l5), some (.int r4.1), none, none] [.int 0, .int l4] (zz_S F I J) _ _
            refine zs_257_77 ?_
            refine And.intro (rfl) (And.intro (Nat.le_of_ble_eq_true rfl) (And.intro (Nat.le_of_ble_eq_true rfl) (And.intro (Nat.le_of_ble_eq_true rfl) ?_)))
            have g8 : ¬ (((7 * r4.1) + 1) < 0 ∨ 84 ≤ ((7 * r4.1) + 1).toNatClampNeg) := zz_g hr
            replace hr := zz_gt hr
            refine Exists.intro _ (Exists.intro _ (And.intro (zr_X12_field F I J (d+68) r4.1 1 g8) ?_))
            refine And.intro (rfl) (And.intro (Or.inl rfl) ?_)
            have g9 : ¬ (r4.1 < 0 ∨ 12 ≤ r4.1.toNatClampNeg) := zz_g hr
            replace hr := zz_gt hr
            refine And.intro (g9) (And.intro (fun (h8 : ((l4 + 0) + (zv_X12_field I r4.1 1)) < (I 70 r4.1.toNatClampNeg)) => ?_) (fun (h8 : ¬ (((l4 + 0) + (zv_X12_field I r4.1 1)) < (I 70 r4.1.toNatClampNeg))) => ?_))
            · rw [if_pos h8] at hr
              exact zz_wk [true, true, true, true, true, true, true, true, false] rfl (ih123 _ _ _ _ _ _ _ _ _ _ _ hr)
            · rw [if_neg h8] at hr
              refine And.intro (rfl) (And.intro (Or.inl rfl) (And.intro (g9) (And.intro (fun (h9 : ¬ ((l4 + 0) + (zv_X12_field I r4.1 1)) = (I 70 r4.1.toNatClampNeg)) => ?_) (fun (h9 : ¬ (¬ ((l4 + 0) + (zv_X12_field I r4.1 1)) = (I 70 r4.1.toNatClampNeg))) => ?_))))
              · rw [if_pos h9] at hr
                exact zz_wk [true, true, true, true, true, true, true, true, false] rfl (ih140 _ _ _ _ _ _ _ _ _ _ _ hr)
              · rw [if_neg h9] at hr
                refine And.intro (rfl) (And.intro (Or.inl rfl) (And.intro (g9) (And.intro (fun (h10 : (I 71 r4.1.toNatClampNeg) ≤ l3) => ?_) (fun (h10 : ¬ ((I 71 r4.1.toNatClampNeg) ≤ l3)) => ?_))))
                · rw [if_pos h10] at hr
                  exact zz_wk [true, true, true, true, true, true, true, true, false] rfl (ih140 _ _ _ _ _ _ _ _ _ _ _ hr)
                · rw [if_neg h10] at hr
                  exact zz_wk [true, true, true, true, true, true, true, true, false] rfl (ih123 _ _ _ _ _ _ _ _ _ _ _ hr)
        · rw [if_neg h3] at hr
          exact zz_wk [true, true, true, true, true, true, false, false, false] rfl (ih194 _ _ _ _ _ _ _ _ _ _ _ hr)
    · intro l1 l2 l3 l4 l5 l6 l7 I J F r hr
      rw [ze_X12_goWeaves_123] at hr
      unfold zb_X12_goWeaves_123 at hr
      refine zs_257_123 ?_
      refine And.intro (rfl) (And.intro (rfl) ?_)
      have g13 : ¬ (l6 < 0 ∨ 12 ≤ l6.toNatClampNeg) := zz_g hr
      replace hr := zz_gt hr
      refine And.intro (g13) (And.intro (rfl) (And.intro (rfl) (And.intro (g13) ?_)))
      exact zz_wk [true, true, true, true, true, true, true, true, false] rfl (ih140 _ _ _ _ _ _ _ _ _ _ _ hr)
    · intro l1 l2 l3 l4 l5 l6 l7 I J F r hr
      rw [ze_X12_goWeaves_140] at hr
      unfold zb_X12_goWeaves_140 at hr
      refine zs_257_140 ?_
      refine And.intro (rfl) (And.intro (Or.inl rfl) ?_)
      have g10 : ¬ (l5 < 0 ∨ 2 ≤ l5.toNatClampNeg) := zz_g hr
      replace hr := zz_gt hr
      refine And.intro (g10) (And.intro (rfl) (And.intro (rfl) ?_))
      have g11 : ¬ (l3 < 0 ∨ 12 ≤ l3.toNatClampNeg) := zz_g hr
      replace hr := zz_gt hr
      refine And.intro (g11) (And.intro (rfl) (And.intro (rfl) (And.intro (g10) (And.intro (rfl) (And.intro (Nat.le_of_ble_eq_true rfl) ?_)))))
      refine And.intro (Nat.le_of_ble_eq_true rfl) (And.intro (Nat.le_of_ble_eq_true rfl) ?_)
      obtain ⟨r12, cr12, hr⟩ := Option.bind_eq_some_iff.mp hr
      refine Exists.intro _ (Exists.intro _ (And.intro (hc0 (l1 &&& (((1 : Int32) <<< (l6 &&& 31)) ^^^ ((-1)))) l6 (l3 + 1) l7 (zz_u (zz_u I 65 l3.toNatClampNeg l5) 67 l5.toNatClampNeg l7) J F r12 cr12) ?_))
      refine And.intro (rfl) (And.intro (rfl) (And.intro (g10) ?_))
      exact zz_wk [true, true, true, true, true, true, false, false, false] rfl (ih194 _ _ _ _ _ _ _ _ _ _ _ hr)
    · intro l1 l2 l3 l4 l5 l6 l7 I J F r hr
      rw [ze_X12_goWeaves_194] at hr
      unfold zb_X12_goWeaves_194 at hr
      refine zs_257_194 ?_
      exact zz_wk [true, true, true, true, true, true, false, false, false] rfl (ih32 _ _ _ _ _ _ _ _ _ _ _ hr)
theorem zr_X12_goWeaves (d N : Nat) (call : Nat → Int32 → Int32 → Int32 → Int32 → (Nat → Nat → Int32) → (Nat → Nat → Int64) → zz_F → Option (Int32 × (Nat → Nat → Int32) × (Nat → Nat → Int64) × zz_F)) (hc0 : ∀ (x0 : Int32) (x1 : Int32) (x2 : Int32) (x3 : Int32) (I : Nat → Nat → Int32) (J : Nat → Nat → Int64) (F : zz_F) (r : Int32 × (Nat → Nat → Int32) × (Nat → Nat → Int64) × zz_F), call 0 x0 x1 x2 x3 I J F = some r → zz_run (d+68) 257 0 [some (.ref 52), some (.int x0), some (.int x1), some (.int x2), some (.int x3), none, none, none, none] [] (zz_S F I J) none (zz_S r.2.2.2 r.2.1 r.2.2.1)) (l1 : Int32) (l2 : Int32) (l3 : Int32) (l4 : Int32) (I : Nat → Nat → Int32) (J : Nat → Nat → Int64) (F : zz_F) (r : Int32 × (Nat → Nat → Int32) × (Nat → Nat → Int64) × zz_F) (h : zf_X12_goWeaves N call l1 l2 l3 l4 I J F = some r) : zz_run (d+69) 257 0 [some (.ref 52), some (.int l1), some (.int l2), some (.int l3), some (.int l4), none, none, none, none] [] (zz_S F I J) none (zz_S (r.2.2.2) (r.2.1) (r.2.2.1)) := (zq_X12_goWeaves d N call hc0 N).1 l1 l2 l3 l4 0 0 0 I J F r h
def zg_weaves (N : Nat) : Nat → Nat → Int32 → Int32 → Int32 → Int32 → (Nat → Nat → Int32) → (Nat → Nat → Int64) → zz_F → Option (Int32 × (Nat → Nat → Int32) × (Nat → Nat → Int64) × zz_F)
  | 0 => fun _ _ _ _ _ _ _ _ => none
  | D + 1 => fun g x0 x1 x2 x3 I J F => if g = 0 then zf_X12_goWeaves N (zg_weaves N D) x0 x1 x2 x3 I J F else (none)
theorem zge_weaves_0 (N D : Nat) (x0 : Int32) (x1 : Int32) (x2 : Int32) (x3 : Int32) (I : Nat → Nat → Int32) (J : Nat → Nat → Int64) (F : zz_F) : zg_weaves N (D+1) 0 x0 x1 x2 x3 I J F = zf_X12_goWeaves N (zg_weaves N D) x0 x1 x2 x3 I J F := by
  show (if 0 = 0 then zf_X12_goWeaves N (zg_weaves N D) x0 x1 x2 x3 I J F else (none)) = _
  rw [if_pos rfl]
set_option maxHeartbeats 16000000 in
theorem zgq_weaves (N : Nat) : ∀ (D d : Nat), (∀ (x0 : Int32) (x1 : Int32) (x2 : Int32) (x3 : Int32) (I : Nat → Nat → Int32) (J : Nat → Nat → Int64) (F : zz_F) (r : Int32 × (Nat → Nat → Int32) × (Nat → Nat → Int64) × zz_F), (zg_weaves N D) 0 x0 x1 x2 x3 I J F = some r → zz_run (d + D + 68) 257 0 [some (.ref 52), some (.int x0), some (.int x1), some (.int x2), some (.int x3), none, none, none, none] [] (zz_S F I J) none (zz_S r.2.2.2 r.2.1 r.2.2.1)) := by
  intro D
  induction D with
  | zero => intro d; exact fun _ _ _ _ _ _ _ _ h => zz_no h
  | succ D ih =>
    intro d
    have i0 := ih d
    skip
    · intro x0 x1 x2 x3 I J F r h
      rw [zge_weaves_0] at h
      exact zr_X12_goWeaves (d + D) N _ i0 x0 x1 x2 x3 I J F r h
def zf_X12_goWeaves_ (N : Nat) (x0 : Int32) (x1 : Int32) (x2 : Int32) (x3 : Int32) (I : Nat → Nat → Int32) (J : Nat → Nat → Int64) (F : zz_F) : Option (Int32 × (Nat → Nat → Int32) × (Nat → Nat → Int64) × zz_F) := zg_weaves N 16 0 x0 x1 x2 x3 I J F
theorem zr_X12_goWeaves_ (d N : Nat) (x0 : Int32) (x1 : Int32) (x2 : Int32) (x3 : Int32) (I : Nat → Nat → Int32) (J : Nat → Nat → Int64) (F : zz_F) (r : Int32 × (Nat → Nat → Int32) × (Nat → Nat → Int64) × zz_F) (h : zf_X12_goWeaves_ N x0 x1 x2 x3 I J F = some r) : zz_run (d+84) 257 0 [some (.ref 52), some (.int x0), some (.int x1), some (.int x2), some (.int x3), none, none, none, none] [] (zz_S F I J) none (zz_S r.2.2.2 r.2.1 r.2.2.1) := (zgq_weaves N 16 d) x0 x1 x2 x3 I J F r h
def zb_X11_scenes_0 (N : Nat) (rec : Nat → (Nat → Nat → Int32) → (Nat → Nat → Int64) → Option (Int32 × (Nat → Nat → Int32) × (Nat → Nat → Int64)))  (I : Nat → Nat → Int32) (J : Nat → Nat → Int64) : Option (Int32 × (Nat → Nat → Int32) × (Nat → Nat → Int64)) := if ¬ (zv_X11_takeText I) = 0 then ((zf_X7_faultIn_X3__3 N (zv_X11_takeText I) 76 (zw_X11_takeText I) J).bind fun r1 => if r1.1 = ((-1)) then ((zf_X9_grow N (zv_X3_lineCount r1.2.1) r1.2.1 J).bind fun r2 => (zf_X6_clearShelves N  (zw_X6_forgetUndone (zw_X1_growStale (zz_u r2.2.1 8 2 ((r1.2.1 8 2) ||| r2.1)))) J).bind fun r3 => some (zv_X3_lineCount r1.2.1, r3.2.1, J)) else (some (((-1)) - r1.1, r1.2.1, J))) else (some (0, zw_X11_takeText I, J))
def zl_X11_scenes (N : Nat) : Nat → Nat → (Nat → Nat → Int32) → (Nat → Nat → Int64) → Option (Int32 × (Nat → Nat → Int32) × (Nat → Nat → Int64))
  | 0 => fun _ _ _ => none
  | n + 1 => fun pc  I J => if pc = 0 then zb_X11_scenes_0 N (zl_X11_scenes N n)  I J else none
theorem ze_X11_scenes_0 (N : Nat) (n : Nat)  (I : Nat → Nat → Int32) (J : Nat → Nat → Int64) : zl_X11_scenes N (n+1) 0  I J = zb_X11_scenes_0 N (zl_X11_scenes N n)  I J := by
  show (if 0 = 0 then zb_X11_scenes_0 N (zl_X11_scenes N n)  I J else none) = _
  rw [if_pos rfl]
def zf_X11_scenes (N : Nat)  (I : Nat → Nat → Int32) (J : Nat → Nat → Int64) : Option (Int32 × (Nat → Nat → Int32) × (Nat → Nat → Int64)) := zl_X11_scenes N N 0  I J
set_option maxHeartbeats 16000000 in
theorem zq_X11_scenes (F : zz_F) (d N : Nat) : ∀ n : Nat, (∀  (I : Nat → Nat → Int32) (J : Nat → Nat → Int64) (r : Int32 × (Nat → Nat → Int32) × (Nat → Nat → Int64)), zl_X11_scenes N n 0  I J = some r → zz_run (d+5) 136 0 [some (.ref 2), none, none, none] [] (zz_S F I J) (some (.int r.1)) (zz_S F (r.2.1) J)) := by
  intro n
  induction n with
  | zero => exact fun _ _ _ h => zz_no h
  | succ n ih =>
    have ih0 := ih
    skip
    · intro  I J r hr
      rw [ze_X11_scenes_0] at hr
      unfold zb_X11_scenes_0 at hr
      refine zs_136_0 ?_
      refine And.intro (rfl) (And.intro (Nat.le_of_ble_eq_true rfl) (And.intro (Nat.le_of_ble_eq_true rfl) (And.intro (Nat.le_of_ble_eq_true rfl) ?_)))
      refine Exists.intro _ (Exists.intro _ (And.intro (zr_X11_takeText F I J (d+4) ) ?_))
      refine And.intro (fun (h1 : ¬ (zv_X11_takeText I) = 0) => ?_) (fun (h1 : ¬ (¬ (zv_X11_takeText I) = 0)) => ?_)
      · rw [if_pos h1] at hr
        show zz_run _ 136 11 [some (.ref 2), some (.int (zv_X11_takeText I)), none, none] [] (zz_S F (zw_X11_takeText I) J) _ _
        refine zs_136_11 ?_
        refine And.intro (rfl) (And.intro (rfl) (And.intro (rfl) (And.intro (Nat.le_of_ble_eq_true rfl) (And.intro (Nat.le_of_ble_eq_true rfl) (And.intro (Nat.le_of_ble_eq_true rfl) ?_)))))
        obtain ⟨r1, cr1, hr⟩ := Option.bind_eq_some_iff.mp hr
        refine Exists.intro _ (Exists.intro _ (And.intro (zr_X7_faultIn_X3__3 F (zw_X11_takeText I) J d N (zv_X11_takeText I) 76 r1 cr1) ?_))
        refine And.intro (fun (h2 : r1.1 = ((-1))) => ?_) (fun (h2 : ¬ (r1.1 = ((-1)))) => ?_)
        · rw [if_pos h2] at hr
          show zz_run _ 136 35 [some (.ref 2), some (.int (zv_X11_takeText I)), some (.int r1.1), none] [] (zz_S F r1.2.1 J) _ _
          refine zs_136_35 ?_
          refine And.intro (rfl) (And.intro (rfl) (And.intro (Nat.le_of_ble_eq_true rfl) (And.intro (Nat.le_of_ble_eq_true rfl) (And.intro (Nat.le_of_ble_eq_true rfl) ?_))))
          refine Exists.intro _ (Exists.intro _ (And.intro (zr_X3_lineCount F r1.2.1 J (d+4) ) ?_))
          refine And.intro (rfl) (And.intro (rfl) (And.intro (rfl) (And.intro (rfl) (And.intro (rfl) (And.intro (Nat.le_of_ble_eq_true rfl) ?_)))))
          refine And.intro (Nat.le_of_ble_eq_true rfl) (And.intro (Nat.le_of_ble_eq_true rfl) ?_)
          obtain ⟨r2, cr2, hr⟩ := Option.bind_eq_some_iff.mp hr
          refine Exists.intro _ (Exists.intro _ (And.intro (zr_X9_grow F r1.2.1 J (d+3) N (zv_X3_lineCount r1.2.1) r2 cr2) ?_))
          refine And.intro (rfl) (And.intro (rfl) (And.intro (And.intro rfl rfl) (And.intro (rfl) (And.intro (rfl) (And.intro (Nat.le_of_ble_eq_true rfl) ?_)))))
          refine And.intro (Nat.le_of_ble_eq_true rfl) (And.intro (Nat.le_of_ble_eq_true rfl) ?_)
          refine Exists.intro _ (Exists.intro _ (And.intro (zr_X1_growStale F (zz_u r2.2.1 8 2 ((r1.2.1 8 2) ||| r2.1)) J (d+4) ) ?_))
          refine And.intro (rfl) (And.intro (rfl) (And.intro (Nat.le_of_ble_eq_true rfl) (And.intro (Nat.le_of_ble_eq_true rfl) (And.intro (Nat.le_of_ble_eq_true rfl) ?_))))
          refine Exists.intro _ (Exists.intro _ (And.intro (zr_X6_forgetUndone F (zw_X1_growStale (zz_u r2.2.1 8 2 ((r1.2.1 8 2) ||| r2.1))) J (d+4) ) ?_))
          refine And.intro (rfl) (And.intro (rfl) (And.intro (Nat.le_of_ble_eq_true rfl) (And.intro (Nat.le_of_ble_eq_true rfl) (And.intro (Nat.le_of_ble_eq_true rfl) ?_))))
          obtain ⟨r3, cr3, hr⟩ := Option.bind_eq_some_iff.mp hr
          refine Exists.intro _ (Exists.intro _ (And.intro (zr_X6_clearShelves F (zw_X6_forgetUndone (zw_X1_growStale (zz_u r2.2.1 8 2 ((r1.2.1 8 2) ||| r2.1)))) J (d+4) N  r3 cr3) ?_))
          replace hr := Option.some.inj hr
          subst hr
          exact And.intro rfl (And.intro rfl rfl)
        · rw [if_neg h2] at hr
          replace hr := Option.some.inj hr
          subst hr
          exact And.intro rfl (And.intro rfl rfl)
      · rw [if_neg h1] at hr
        replace hr := Option.some.inj hr
        subst hr
        exact And.intro rfl (And.intro rfl rfl)
theorem zr_X11_scenes (F : zz_F) (I : Nat → Nat → Int32) (J : Nat → Nat → Int64) (d N : Nat)  (r : Int32 × (Nat → Nat → Int32) × (Nat → Nat → Int64)) (h : zf_X11_scenes N  I J = some r) : zz_run (d+5) 136 0 [some (.ref 2), none, none, none] [] (zz_S F I J) (some (.int r.1)) (zz_S F (r.2.1) J) := (zq_X11_scenes F d N N)  I J r h
def zb_X11_plays_0 (N : Nat) (rec : Nat → Int32 → (Nat → Nat → Int32) → (Nat → Nat → Int64) → Option (Int32 × (Nat → Nat → Int32) × (Nat → Nat → Int64))) (l1 : Int32) (I : Nat → Nat → Int32) (J : Nat → Nat → Int64) : Option (Int32 × (Nat → Nat → Int32) × (Nat → Nat → Int64)) := if ¬ (zv_X11_isPlay l1) = 0 then ((zf_X11_nextOf N l1 I J).bind fun r1 => if ¬ r1.1 = ((-1)) then ((zf_X1_refresh__5 N  I J).bind fun r2 => (zf_X6_push__8 N  r2.2.1 J).bind fun r3 => if (¬ ((r3.2.1 8 1) < 0)) → (¬ (12 ≤ (r3.2.1 8 1))) → (¬ (r1.1 < 0)) → (r1.1 < 12) → (¬ ((((r3.2.1 8 1) * 12) + r1.1) < 0 ∨ 144 ≤ (((r3.2.1 8 1) * 12) + r1.1).toNatClampNeg)) then ((some (zw_X11_tell__ (zz_perfm r3.2.1 r1.1 (zv_X1_between r3.2.1 (r3.2.1 8 1) r1.1)) J r1.1.toInt64 ((zv_X1_between r3.2.1 (r3.2.1 8 1) r1.1).toInt64) ((zz_perfv r3.2.1 r1.1 (zv_X1_between r3.2.1 (r3.2.1 8 1) r1.1)).toInt64))).bind fun i5 => some (i5 8 0, i5, zx_X11_tell__ (zz_perfm r3.2.1 r1.1 (zv_X1_between r3.2.1 (r3.2.1 8 1) r1.1)) J r1.1.toInt64 ((zv_X1_between r3.2.1 (r3.2.1 8 1) r1.1).toInt64) ((zz_perfv r3.2.1 r1.1 (zv_X1_between r3.2.1 (r3.2.1 8 1) r1.1)).toInt64))) else none) else (some ((-2), I, J))) else (some ((-1), I, J))
def zl_X11_plays (N : Nat) : Nat → Nat → Int32 → (Nat → Nat → Int32) → (Nat → Nat → Int64) → Option (Int32 × (Nat → Nat → Int32) × (Nat → Nat → Int64))
  | 0 => fun _ _ _ _ => none
  | n + 1 => fun pc l1 I J => if pc = 0 then zb_X11_plays_0 N (zl_X11_plays N n) l1 I J else none
theorem ze_X11_plays_0 (N : Nat) (n : Nat) (l1 : Int32) (I : Nat → Nat → Int32) (J : Nat → Nat → Int64) : zl_X11_plays N (n+1) 0 l1 I J = zb_X11_plays_0 N (zl_X11_plays N n) l1 I J := by
  show (if 0 = 0 then zb_X11_plays_0 N (zl_X11_plays N n) l1 I J else none) = _
  rw [if_pos rfl]
def zf_X11_plays (N : Nat) (l1 : Int32) (I : Nat → Nat → Int32) (J : Nat → Nat → Int64) : Option (Int32 × (Nat → Nat → Int32) × (Nat → Nat → Int64)) := zl_X11_plays N N 0 l1 I J
set_option maxHeartbeats 16000000 in
theorem zq_X11_plays (F : zz_F) (d N : Nat) : ∀ n : Nat, (∀ (l1 : Int32) (I : Nat → Nat → Int32) (J : Nat → Nat → Int64) (r : Int32 × (Nat → Nat → Int32) × (Nat → Nat → Int64)), zl_X11_plays N n 0 l1 I J = some r → zz_run (d+4) 141 0 [some (.ref 2), some (.int l1), none, none, none] [] (zz_S F I J) (some (.int r.1)) (zz_S F (r.2.1) (r.2.2))) := by
  intro n
  induction n with
  | zero => exact fun _ _ _ _ h => zz_no h
  | succ n ih =>
    have ih0 := ih
    skip
    · intro l1 I J r hr
      rw [ze_X11_plays_0] at hr
      unfold zb_X11_plays_0 at hr
      refine zs_141_0 ?_
      refine And.intro (Nat.le_of_ble_eq_true rfl) (And.intro (Nat.le_of_ble_eq_true rfl) (And.intro (Nat.le_of_ble_eq_true rfl) ?_))
      refine Exists.intro _ (Exists.intro _ (And.intro (zr_X11_isPlay F I J (d+3) l1) ?_))
      refine And.intro (fun (h1 : ¬ (zv_X11_isPlay l1) = 0) => ?_) (fun (h1 : ¬ (¬ (zv_X11_isPlay l1) = 0)) => ?_)
      · rw [if_pos h1] at hr
        show zz_run _ 141 9 [some (.ref 2), some (.int l1), none, none, none] [] (zz_S F I J) _ _
        refine zs_141_9 ?_
        refine And.intro (rfl) (And.intro (Nat.le_of_ble_eq_true rfl) (And.intro (Nat.le_of_ble_eq_true rfl) (And.intro (Nat.le_of_ble_eq_true rfl) ?_)))
        obtain ⟨r1, cr1, hr⟩ := Option.bind_eq_some_iff.mp hr
        refine Exists.intro _ (Exists.intro _ (And.intro (zr_X11_nextOf F I J (d+2) N l1 r1 cr1) ?_))
        refine And.intro (fun (h2 : ¬ r1.1 = ((-1))) => ?_) (fun (h2 : ¬ (¬ r1.1 = ((-1)))) => ?_)
        · rw [if_pos h2] at hr
          show zz_run _ 141 23 [some (.ref 2), some (.int l1), some (.int r1.1), none, none] [] (zz_S F I J) _ _
          refine zs_141_23 ?_
          refine And.intro (rfl) (And.intro (rfl) (And.intro (rfl) (And.intro (Nat.le_of_ble_eq_true rfl) (And.intro (Nat.le_of_ble_eq_true rfl) (And.intro (Nat.le_of_ble_eq_true rfl) ?_)))))
          obtain ⟨r2, cr2, hr⟩ := Option.bind_eq_some_iff.mp hr
          refine Exists.intro _ (Exists.intro _ (And.intro (zr_X1_refresh__5 F I J d N  r2 cr2) ?_))
          refine And.intro (rfl) (And.intro (rfl) (And.intro (rfl) (And.intro (Nat.le_of_ble_eq_true rfl) (And.intro (Nat.le_of_ble_eq_true rfl) (And.intro (Nat.le_of_ble_eq_true rfl) ?_)))))
          obtain ⟨r3, cr3, hr⟩ := Option.bind_eq_some_iff.mp hr
          refine Exists.intro _ (Exists.intro _ (And.intro (zr_X6_push__8 F r2.2.1 J (d+2) N  r3 cr3) ?_))
          refine And.intro (rfl) (And.intro (rfl) (And.intro (rfl) (And.intro (rfl) (And.intro (Nat.le_of_ble_eq_true rfl) (And.intro (Nat.le_of_ble_eq_true rfl) ?_)))))
          refine And.intro (Nat.le_of_ble_eq_true rfl) ?_
          have g4 : (¬ ((r3.2.1 8 1) < 0)) → (¬ (12 ≤ (r3.2.1 8 1))) → (¬ (r1.1 < 0)) → (r1.1 < 12) → (¬ ((((r3.2.1 8 1) * 12) + r1.1) < 0 ∨ 144 ≤ (((r3.2.1 8 1) * 12) + r1.1).toNatClampNeg)) := zz_g hr
          replace hr := zz_gt hr
          refine Exists.intro _ (Exists.intro _ (And.intro (zr_X1_between F r3.2.1 J (d+3) (r3.2.1 8 1) r1.1 g4) ?_))
          refine And.intro (rfl) (And.intro (rfl) (And.intro (rfl) (And.intro (Nat.le_of_ble_eq_true rfl) (And.intro (Nat.le_of_ble_eq_true rfl) (And.intro (Nat.le_of_ble_eq_true rfl) ?_)))))
          refine Exists.intro _ (Exists.intro _ (And.intro (zr_perform F r3.2.1 J d r1.1 (zv_X1_between r3.2.1 (r3.2.1 8 1) r1.1)) ?_))
          refine And.intro (rfl) (And.intro (Nat.le_of_ble_eq_true rfl) (And.intro (Nat.le_of_ble_eq_true rfl) (And.intro (Nat.le_of_ble_eq_true rfl) ?_)))
          obtain ⟨i5, ci5, hr⟩ := Option.bind_eq_some_iff.mp hr
          refine Exists.intro _ (Exists.intro _ (And.intro (zz_bi ci5 (zr_X11_tell__ F (zz_perfm r3.2.1 r1.1 (zv_X1_between r3.2.1 (r3.2.1 8 1) r1.1)) J d r1.1.toInt64 ((zv_X1_between r3.2.1 (r3.2.1 8 1) r1.1).toInt64) ((zz_perfv r3.2.1 r1.1 (zv_X1_between r3.2.1 (r3.2.1 8 1) r1.1)).toInt64))) ?_))
          refine And.intro (rfl) (And.intro (rfl) ?_)
          replace hr := Option.some.inj hr
          subst hr
          exact And.intro rfl (And.intro rfl rfl)
        · rw [if_neg h2] at hr
          replace hr := Option.some.inj hr
          subst hr
          exact And.intro rfl (And.intro rfl rfl)
      · rw [if_neg h1] at hr
        replace hr := Option.some.inj hr
        subst hr
        exact And.intro rfl (And.intro rfl rfl)
theorem zr_X11_plays (F : zz_F) (I : Nat → Nat → Int32) (J : Nat → Nat → Int64) (d N : Nat) (l1 : Int32) (r : Int32 × (Nat → Nat → Int32) × (Nat → Nat → Int64)) (h : zf_X11_plays N l1 I J = some r) : zz_run (d+4) 141 0 [some (.ref 2), some (.int l1), none, none, none] [] (zz_S F I J) (some (.int r.1)) (zz_S F (r.2.1) (r.2.2)) := (zq_X11_plays F d N N) l1 I J r h
def zb_X11_evening_0 (N : Nat) (rec : Nat → Int32 → Int32 → Int32 → Int32 → Int32 → (Nat → Nat → Int32) → (Nat → Nat → Int64) → Option (Int32 × (Nat → Nat → Int32) × (Nat → Nat → Int64))) (l1 : Int32) (l2 : Int32) (l3 : Int32) (l4 : Int32) (l5 : Int32) (I : Nat → Nat → Int32) (J : Nat → Nat → Int64) : Option (Int32 × (Nat → Nat → Int32) × (Nat → Nat → Int64)) := if (zv_X11_takeText I) ≤ 0 then (rec 33 (zv_X11_takeText I) 0 0 0 0 (zw_X11_takeText I) J) else ((zf_X7_faultIn_X0__3 N (zv_X11_takeText I) 60 (zw_X11_takeText I) J).bind fun r1 => if r1.1 = ((-1)) then (rec 33 (zv_X11_takeText I) 0 0 0 0 r1.2.1 J) else (some (((-1)) - r1.1, r1.2.1, J)))
def zb_X11_evening_33 (N : Nat) (rec : Nat → Int32 → Int32 → Int32 → Int32 → Int32 → (Nat → Nat → Int32) → (Nat → Nat → Int64) → Option (Int32 × (Nat → Nat → Int32) × (Nat → Nat → Int64))) (l1 : Int32) (l2 : Int32) (l3 : Int32) (l4 : Int32) (l5 : Int32) (I : Nat → Nat → Int32) (J : Nat → Nat → Int64) : Option (Int32 × (Nat → Nat → Int32) × (Nat → Nat → Int64)) := (zf_X1_refresh__5 N  I J).bind fun r2 => (zf_X6_hold__8 N  r2.2.1 J).bind fun r3 => rec 65 l1 0 0 0 0 r3.2.1 J
def zb_X11_evening_65 (N : Nat) (rec : Nat → Int32 → Int32 → Int32 → Int32 → Int32 → (Nat → Nat → Int32) → (Nat → Nat → Int64) → Option (Int32 × (Nat → Nat → Int32) × (Nat → Nat → Int64))) (l1 : Int32) (l2 : Int32) (l3 : Int32) (l4 : Int32) (l5 : Int32) (I : Nat → Nat → Int32) (J : Nat → Nat → Int64) : Option (Int32 × (Nat → Nat → Int32) × (Nat → Nat → Int64)) := if l1 ≤ l5 then (rec 141 0 0 l3 l4 0 I J) else (if l1 ≤ l2 then (rec 141 0 0 l3 l4 0 I J) else (if ¬ l4 = 0 then (rec 141 0 0 l3 l4 0 I J) else ((zf_X11_act N (zv_X11_signAt I l2) (zv_X11_signAt I (l2 + 1)) I J).bind fun r4 => if r4.1 = 0 then (rec 135 l1 l2 l3 1 l5 r4.2.1 J) else (if (zv_X11_signAt I l2) = 120 then (rec 135 l1 (l2 + 2) (l3 + 1) l4 l5 r4.2.1 J) else (if ¬ (zv_X11_signAt I l2) = 119 then (rec 135 l1 (l2 + 1) (l3 + 1) l4 l5 r4.2.1 J) else (rec 135 l1 (l2 + 2) (l3 + 1) l4 l5 r4.2.1 J))))))
def zb_X11_evening_135 (N : Nat) (rec : Nat → Int32 → Int32 → Int32 → Int32 → Int32 → (Nat → Nat → Int32) → (Nat → Nat → Int64) → Option (Int32 × (Nat → Nat → Int32) × (Nat → Nat → Int64))) (l1 : Int32) (l2 : Int32) (l3 : Int32) (l4 : Int32) (l5 : Int32) (I : Nat → Nat → Int32) (J : Nat → Nat → Int64) : Option (Int32 × (Nat → Nat → Int32) × (Nat → Nat → Int64)) := rec 65 l1 l2 l3 l4 (l5 + 1) I J
def zb_X11_evening_141 (N : Nat) (rec : Nat → Int32 → Int32 → Int32 → Int32 → Int32 → (Nat → Nat → Int32) → (Nat → Nat → Int64) → Option (Int32 × (Nat → Nat → Int32) × (Nat → Nat → Int64))) (l1 : Int32) (l2 : Int32) (l3 : Int32) (l4 : Int32) (l5 : Int32) (I : Nat → Nat → Int32) (J : Nat → Nat → Int64) : Option (Int32 × (Nat → Nat → Int32) × (Nat → Nat → Int64)) := if l3 ≤ 0 then (rec 152 0 0 l3 l4 0 I J) else ((zf_X6_pushHeld N  I J).bind fun r5 => rec 152 0 0 l3 l4 0 r5.2.1 J)
def zb_X11_evening_152 (N : Nat) (rec : Nat → Int32 → Int32 → Int32 → Int32 → Int32 → (Nat → Nat → Int32) → (Nat → Nat → Int64) → Option (Int32 × (Nat → Nat → Int32) × (Nat → Nat → Int64))) (l1 : Int32) (l2 : Int32) (l3 : Int32) (l4 : Int32) (l5 : Int32) (I : Nat → Nat → Int32) (J : Nat → Nat → Int64) : Option (Int32 × (Nat → Nat → Int32) × (Nat → Nat → Int64)) := if l4 = 0 then (some (l3, zw_X11_tell_ I J 0 ((I 8 0).toInt64), zx_X11_tell_ I J 0 ((I 8 0).toInt64))) else (some (l3, zw_X11_tell_ I J 1 ((I 8 0).toInt64), zx_X11_tell_ I J 1 ((I 8 0).toInt64)))
def zl_X11_evening (N : Nat) : Nat → Nat → Int32 → Int32 → Int32 → Int32 → Int32 → (Nat → Nat → Int32) → (Nat → Nat → Int64) → Option (Int32 × (Nat → Nat → Int32) × (Nat → Nat → Int64))
  | 0 => fun _ _ _ _ _ _ _ _ => none
  | n + 1 => fun pc l1 l2 l3 l4 l5 I J => if pc = 0 then zb_X11_evening_0 N (zl_X11_evening N n) l1 l2 l3 l4 l5 I J else (if pc = 33 then zb_X11_evening_33 N (zl_X11_evening N n) l1 l2 l3 l4 l5 I J else (if pc = 65 then zb_X11_evening_65 N (zl_X11_evening N n) l1 l2 l3 l4 l5 I J else (if pc = 135 then zb_X11_evening_135 N (zl_X11_evening N n) l1 l2 l3 l4 l5 I J else (if pc = 141 then zb_X11_evening_141 N (zl_X11_evening N n) l1 l2 l3 l4 l5 I J else (if pc = 152 then zb_X11_evening_152 N (zl_X11_evening N n) l1 l2 l3 l4 l5 I J else none)))))
theorem ze_X11_evening_0 (N : Nat) (n : Nat) (l1 : Int32) (l2 : Int32) (l3 : Int32) (l4 : Int32) (l5 : Int32) (I : Nat → Nat → Int32) (J : Nat → Nat → Int64) : zl_X11_evening N (n+1) 0 l1 l2 l3 l4 l5 I J = zb_X11_evening_0 N (zl_X11_evening N n) l1 l2 l3 l4 l5 I J := by
  show (if 0 = 0 then zb_X11_evening_0 N (zl_X11_evening N n) l1 l2 l3 l4 l5 I J else (if 0 = 33 then zb_X11_evening_33 N (zl_X11_evening N n) l1 l2 l3 l4 l5 I J else (if 0 = 65 then zb_X11_evening_65 N (zl_X11_evening N n) l1 l2 l3 l4 l5 I J else (if 0 = 135 then zb_X11_evening_135 N (zl_X11_evening N n) l1 l2 l3 l4 l5 I J else (if 0 = 141 then zb_X11_evening_141 N (zl_X11_evening N n) l1 l2 l3 l4 l5 I J else (if 0 = 152 then zb_X11_evening_152 N (zl_X11_evening N n) l1 l2 l3 l4 l5 I J else none)))))) = _
  rw [if_pos rfl]
theorem ze_X11_evening_33 (N : Nat) (n : Nat) (l1 : Int32) (l2 : Int32) (l3 : Int32) (l4 : Int32) (l5 : Int32) (I : Nat → Nat → Int32) (J : Nat → Nat → Int64) : zl_X11_evening N (n+1) 33 l1 l2 l3 l4 l5 I J = zb_X11_evening_33 N (zl_X11_evening N n) l1 l2 l3 l4 l5 I J := by
  show (if 33 = 0 then zb_X11_evening_0 N (zl_X11_evening N n) l1 l2 l3 l4 l5 I J else (if 33 = 33 then zb_X11_evening_33 N (zl_X11_evening N n) l1 l2 l3 l4 l5 I J else (if 33 = 65 then zb_X11_evening_65 N (zl_X11_evening N n) l1 l2 l3 l4 l5 I J else (if 33 = 135 then zb_X11_evening_135 N (zl_X11_evening N n) l1 l2 l3 l4 l5 I J else (if 33 = 141 then zb_X11_evening_141 N (zl_X11_evening N n) l1 l2 l3 l4 l5 I J else (if 33 = 152 then zb_X11_evening_152 N (zl_X11_evening N n) l1 l2 l3 l4 l5 I J else none)))))) = _
  rw [if_neg (by decide), if_pos rfl]
theorem ze_X11_evening_65 (N : Nat) (n : Nat) (l1 : Int32) (l2 : Int32) (l3 : Int32) (l4 : Int32) (l5 : Int32) (I : Nat → Nat → Int32) (J : Nat → Nat → Int64) : zl_X11_evening N (n+1) 65 l1 l2 l3 l4 l5 I J = zb_X11_evening_65 N (zl_X11_evening N n) l1 l2 l3 l4 l5 I J := by
  show (if 65 = 0 then zb_X11_evening_0 N (zl_X11_evening N n) l1 l2 l3 l4 l5 I J else (if 65 = 33 then zb_X11_evening_33 N (zl_X11_evening N n) l1 l2 l3 l4 l5 I J else (if 65 = 65 then zb_X11_evening_65 N (zl_X11_evening N n) l1 l2 l3 l4 l5 I J else (if 65 = 135 then zb_X11_evening_135 N (zl_X11_evening N n) l1 l2 l3 l4 l5 I J else (if 65 = 141 then zb_X11_evening_141 N (zl_X11_evening N n) l1 l2 l3 l4 l5 I J else (if 65 = 152 then zb_X11_evening_152 N (zl_X11_evening N n) l1 l2 l3 l4 l5 I J else none)))))) = _
  rw [if_neg (by decide), if_neg (by decide), if_pos rfl]
theorem ze_X11_evening_135 (N : Nat) (n : Nat) (l1 : Int32) (l2 : Int32) (l3 : Int32) (l4 : Int32) (l5 : Int32) (I : Nat → Nat → Int32) (J : Nat → Nat → Int64) : zl_X11_evening N (n+1) 135 l1 l2 l3 l4 l5 I J = zb_X11_evening_135 N (zl_X11_evening N n) l1 l2 l3 l4 l5 I J := by
  show (if 135 = 0 then zb_X11_evening_0 N (zl_X11_evening N n) l1 l2 l3 l4 l5 I J else (if 135 = 33 then zb_X11_evening_33 N (zl_X11_evening N n) l1 l2 l3 l4 l5 I J else (if 135 = 65 then zb_X11_evening_65 N (zl_X11_evening N n) l1 l2 l3 l4 l5 I J else (if 135 = 135 then zb_X11_evening_135 N (zl_X11_evening N n) l1 l2 l3 l4 l5 I J else (if 135 = 141 then zb_X11_evening_141 N (zl_X11_evening N n) l1 l2 l3 l4 l5 I J else (if 135 = 152 then zb_X11_evening_152 N (zl_X11_evening N n) l1 l2 l3 l4 l5 I J else none)))))) = _
  rw [if_neg (by decide), if_neg (by decide), if_neg (by decide), if_pos rfl]
theorem ze_X11_evening_141 (N : Nat) (n : Nat) (l1 : Int32) (l2 : Int32) (l3 : Int32) (l4 : Int32) (l5 : Int32) (I : Nat → Nat → Int32) (J : Nat → Nat → Int64) : zl_X11_evening N (n+1) 141 l1 l2 l3 l4 l5 I J = zb_X11_evening_141 N (zl_X11_evening N n) l1 l2 l3 l4 l5 I J := by
  show (if 141 = 0 then zb_X11_evening_0 N (zl_X11_evening N n) l1 l2 l3 l4 l5 I J else (if 141 = 33 then zb_X11_evening_33 N (zl_X11_evening N n) l1 l2 l3 l4 l5 I J else (if 141 = 65 then zb_X11_evening_65 N (zl_X11_evening N n) l1 l2 l3 l4 l5 I J else (if 141 = 135 then zb_X11_evening_135 N (zl_X11_evening N n) l1 l2 l3 l4 l5 I J else (if 141 = 141 then zb_X11_evening_141 N (zl_X11_evening N n) l1 l2 l3 l4 l5 I J else (if 141 = 152 then zb_X11_evening_152 N (zl_X11_evening N n) l1 l2 l3 l4 l5 I J else none)))))) = _
  rw [if_neg (by decide), if_neg (by decide), if_neg (by decide), if_neg (by decide), if_pos rfl]
theorem ze_X11_evening_152 (N : Nat) (n : Nat) (l1 : Int32) (l2 : Int32) (l3 : Int32) (l4 : Int32) (l5 : Int32) (I : Nat → Nat → Int32) (J : Nat → Nat → Int64) : zl_X11_evening N (n+1) 152 l1 l2 l3 l4 l5 I J = zb_X11_evening_152 N (zl_X11_evening N n) l1 l2 l3 l4 l5 I J := by
  show (if 152 = 0 then zb_X11_evening_0 N (zl_X11_evening N n) l1 l2 l3 l4 l5 I J else (if 152 = 33 then zb_X11_evening_33 N (zl_X11_evening N n) l1 l2 l3 l4 l5 I J else (if 152 = 65 then zb_X11_evening_65 N (zl_X11_evening N n) l1 l2 l3 l4 l5 I J else (if 152 = 135 then zb_X11_evening_135 N (zl_X11_evening N n) l1 l2 l3 l4 l5 I J else (if 152 = 141 then zb_X11_evening_141 N (zl_X11_evening N n) l1 l2 l3 l4 l5 I J else (if 152 = 152 then zb_X11_evening_152 N (zl_X11_evening N n) l1 l2 l3 l4 l5 I J else none)))))) = _
  rw [if_neg (by decide), if_neg (by decide), if_neg (by decide), if_neg (by decide), if_neg (by decide), if_pos rfl]
def zf_X11_evening (N : Nat)  (I : Nat → Nat → Int32) (J : Nat → Nat → Int64) : Option (Int32 × (Nat → Nat → Int32) × (Nat → Nat → Int64)) := zl_X11_evening N N 0 0 0 0 0 0 I J
set_option maxHeartbeats 16000000 in
theorem zq_X11_evening (F : zz_F) (d N : Nat) : ∀ n : Nat, (∀ (l1 : Int32) (l2 : Int32) (l3 : Int32) (l4 : Int32) (l5 : Int32) (I : Nat → Nat → Int32) (J : Nat → Nat → Int64) (r : Int32 × (Nat → Nat → Int32) × (Nat → Nat → Int64)), zl_X11_evening N n 0 l1 l2 l3 l4 l5 I J = some r → zz_run (d+6) 145 0 [some (.ref 2), none, none, none, none, none, none] [] (zz_S F I J) (some (.int r.1)) (zz_S F (r.2.1) (r.2.2))) ∧ (∀ (l1 : Int32) (l2 : Int32) (l3 : Int32) (l4 : Int32) (l5 : Int32) (I : Nat → Nat → Int32) (J : Nat → Nat → Int64) (r : Int32 × (Nat → Nat → Int32) × (Nat → Nat → Int64)), zl_X11_evening N n 33 l1 l2 l3 l4 l5 I J = some r → zz_run (d+6) 145 33 [some (.ref 2), some (.int l1), none, none, none, none, none] [] (zz_S F I J) (some (.int r.1)) (zz_S F (r.2.1) (r.2.2))) ∧ (∀ (l1 : Int32) (l2 : Int32) (l3 : Int32) (l4 : Int32) (l5 : Int32) (I : Nat → Nat → Int32) (J : Nat → Nat → Int64) (r : Int32 × (Nat → Nat → Int32) × (Nat → Nat → Int64)), zl_X11_evening N n 65 l1 l2 l3 l4 l5 I J = some r → zz_run (d+6) 145 65 [some (.ref 2), some (.int l1), some (.int l2), some (.int l3), some (.int l4), some (.int l5), none] [] (zz_S F I J) (some (.int r.1)) (zz_S F (r.2.1) (r.2.2))) ∧ (∀ (l1 : Int32) (l2 : Int32) (l3 : Int32) (l4 : Int32) (l5 : Int32) (I : Nat → Nat → Int32) (J : Nat → Nat → Int64) (r : Int32 × (Nat → Nat → Int32) × (Nat → Nat → Int64)), zl_X11_evening N n 135 l1 l2 l3 l4 l5 I J = some r → zz_run (d+6) 145 135 [some (.ref 2), some (.int l1), some (.int l2), some (.int l3), some (.int l4), some (.int l5), none] [] (zz_S F I J) (some (.int r.1)) (zz_S F (r.2.1) (r.2.2))) ∧ (∀ (l1 : Int32) (l2 : Int32) (l3 : Int32) (l4 : Int32) (l5 : Int32) (I : Nat → Nat → Int32) (J : Nat → Nat → Int64) (r : Int32 × (Nat → Nat → Int32) × (Nat → Nat → Int64)), zl_X11_evening N n 141 l1 l2 l3 l4 l5 I J = some r → zz_run (d+6) 145 141 [some (.ref 2), none, none, some (.int l3), some (.int l4), none, none] [] (zz_S F I J) (some (.int r.1)) (zz_S F (r.2.1) (r.2.2))) ∧ (∀ (l1 : Int32) (l2 : Int32) (l3 : Int32) (l4 : Int32) (l5 : Int32) (I : Nat → Nat → Int32) (J : Nat → Nat → Int64) (r : Int32 × (Nat → Nat → Int32) × (Nat → Nat → Int64)), zl_X11_evening N n 152 l1 l2 l3 l4 l5 I J = some r → zz_run (d+6) 145 152 [some (.ref 2), none, none, some (.int l3), some (.int l4), none, none] [] (zz_S F I J) (some (.int r.1)) (zz_S F (r.2.1) (r.2.2))) := by
  intro n
  induction n with
  | zero => exact ⟨fun _ _ _ _ _ _ _ _ h => zz_no h, fun _ _ _ _ _ _ _ _ h => zz_no h, fun _ _ _ _ _ _ _ _ h => zz_no h, fun _ _ _ _ _ _ _ _ h => zz_no h, fun _ _ _ _ _ _ _ _ h => zz_no h, fun _ _ _ _ _ _ _ _ h => zz_no h⟩
  | succ n ih =>
    obtain ⟨ih0, ih33, ih65, ih135, ih141, ih152⟩ := ih
    refine ⟨?_, ?_, ?_, ?_, ?_, ?_⟩
    · intro l1 l2 l3 l4 l5 I J r hr
      rw [ze_X11_evening_0] at hr
      unfold zb_X11_evening_0 at hr
      refine zs_145_0 ?_
      refine And.intro (rfl) (And.intro (Nat.le_of_ble_eq_true rfl) (And.intro (Nat.le_of_ble_eq_true rfl) (And.intro (Nat.le_of_ble_eq_true rfl) ?_)))
      refine Exists.intro _ (Exists.intro _ (And.intro (zr_X11_takeText F I J (d+5) ) ?_))
      refine And.intro (fun (h1 : (zv_X11_takeText I) ≤ 0) => ?_) (fun (h1 : ¬ ((zv_X11_takeText I) ≤ 0)) => ?_)
      · rw [if_pos h1] at hr
        exact zz_wk [true, true, false, false, false, false, false] rfl (ih33 _ _ _ _ _ _ _ _ hr)
      · rw [if_neg h1] at hr
        refine And.intro (rfl) (And.intro (rfl) (And.intro (rfl) (And.intro (Nat.le_of_ble_eq_true rfl) (And.intro (Nat.le_of_ble_eq_true rfl) (And.intro (Nat.le_of_ble_eq_true rfl) ?_)))))
        obtain ⟨r1, cr1, hr⟩ := Option.bind_eq_some_iff.mp hr
        refine Exists.intro _ (Exists.intro _ (And.intro (zr_X7_faultIn_X0__3 F (zw_X11_takeText I) J (d+4) N (zv_X11_takeText I) 60 r1 cr1) ?_))
        refine And.intro (fun (h2 : r1.1 = ((-1))) => ?_) (fun (h2 : ¬ (r1.1 = ((-1)))) => ?_)
        · rw [if_pos h2] at hr
          exact zz_wk [true, true, false, false, false, false, false] rfl (ih33 _ _ _ _ _ _ _ _ hr)
        · rw [if_neg h2] at hr
          replace hr := Option.some.inj hr
          subst hr
          exact And.intro rfl (And.intro rfl rfl)
    · intro l1 l2 l3 l4 l5 I J r hr
      rw [ze_X11_evening_33] at hr
      unfold zb_X11_evening_33 at hr
      refine zs_145_33 ?_
      refine And.intro (rfl) (And.intro (rfl) (And.intro (rfl) (And.intro (Nat.le_of_ble_eq_true rfl) (And.intro (Nat.le_of_ble_eq_true rfl) (And.intro (Nat.le_of_ble_eq_true rfl) ?_)))))
      obtain ⟨r2, cr2, hr⟩ := Option.bind_eq_some_iff.mp hr
      refine Exists.intro _ (Exists.intro _ (And.intro (zr_X1_refresh__5 F I J (d+2) N  r2 cr2) ?_))
      refine And.intro (rfl) (And.intro (rfl) (And.intro (rfl) (And.intro (Nat.le_of_ble_eq_true rfl) (And.intro (Nat.le_of_ble_eq_true rfl) (And.intro (Nat.le_of_ble_eq_true rfl) ?_)))))
      obtain ⟨r3, cr3, hr⟩ := Option.bind_eq_some_iff.mp hr
      refine Exists.intro _ (Exists.intro _ (And.intro (zr_X6_hold__8 F r2.2.1 J (d+4) N  r3 cr3) ?_))
      exact zz_wk [true, true, true, true, true, true, false] rfl (ih65 _ _ _ _ _ _ _ _ hr)
    · intro l1 l2 l3 l4 l5 I J r hr
      rw [ze_X11_evening_65] at hr
      unfold zb_X11_evening_65 at hr
      refine zs_145_65 ?_
      refine And.intro (fun (h3 : l1 ≤ l5) => ?_) (fun (h3 : ¬ (l1 ≤ l5)) => ?_)
      · rw [if_pos h3] at hr
        exact zz_wk [true, false, false, true, true, false, false] rfl (ih141 _ _ _ _ _ _ _ _ hr)
      · rw [if_neg h3] at hr
        refine And.intro (fun (h4 : l1 ≤ l2) => ?_) (fun (h4 : ¬ (l1 ≤ l2)) => ?_)
        · rw [if_pos h4] at hr
          exact zz_wk [true, false, false, true, true, false, false] rfl (ih141 _ _ _ _ _ _ _ _ hr)
        · rw [if_neg h4] at hr
          refine And.intro (fun (h5 : ¬ l4 = 0) => ?_) (fun (h5 : ¬ (¬ l4 = 0)) => ?_)
          · rw [if_pos h5] at hr
            exact zz_wk [true, false, false, true, true, false, false] rfl (ih141 _ _ _ _ _ _ _ _ hr)
          · rw [if_neg h5] at hr
            refine And.intro (rfl) (And.intro (Nat.le_of_ble_eq_true rfl) (And.intro (Nat.le_of_ble_eq_true rfl) (And.intro (Nat.le_of_ble_eq_true rfl) ?_)))
            refine Exists.intro _ (Exists.intro _ (And.intro (zr_X11_signAt F I J (d+5) l2) ?_))
            refine And.intro (rfl) (And.intro (Nat.le_of_ble_eq_true rfl) (And.intro (Nat.le_of_ble_eq_true rfl) (And.intro (Nat.le_of_ble_eq_true rfl) ?_)))
            refine Exists.intro _ (Exists.intro _ (And.intro (zr_X11_signAt F I J (d+5) (l2 + 1)) ?_))
            refine And.intro (rfl) (And.intro (Nat.le_of_ble_eq_true rfl) (And.intro (Nat.le_of_ble_eq_true rfl) (And.intro (Nat.le_of_ble_eq_true rfl) ?_)))
            obtain ⟨r4, cr4, hr⟩ := Option.bind_eq_some_iff.mp hr
            refine Exists.intro _ (Exists.intro _ (And.intro (zr_X11_act F I J d N (zv_X11_signAt I l2) (zv_X11_signAt I (l2 + 1)) r4 cr4) ?_))
            refine And.intro (fun (h6 : r4.1 = 0) => ?_) (fun (h6 : ¬ (r4.1 = 0)) => ?_)
            · rw [if_pos h6] at hr
              show zz_run _ 145 132 [some (.ref 2), some (.int l1), some (.int l2), some (.int l3), some (.int l4), some (.int l5), some (.int (zv_X11_signAt I l2))] [] (zz_S F r4.2.1 J) _ _
              refine zs_145_132 ?_
              exact zz_wk [true, true, true, true, true, true, false] rfl (ih135 _ _ _ _ _ _ _ _ hr)
            · rw [if_neg h6] at hr
              refine And.intro (fun (h7 : (zv_X11_signAt I l2) = 120) => ?_) (fun (h7 : ¬ ((zv_X11_signAt I l2) = 120)) => ?_)
              · rw [if_pos h7] at hr
                show zz_run _ 145 122 [some (.ref 2), some (.int l1), some (.int l2), some (.int (l3 + 1)), some (.int l4), some (.int l5), some (.int (zv_X11_signAt I l2))] [.int l2] (zz_S F r4.2.1 J) _ _
                refine zs_145_122 ?_
                show zz_run _ 145 127 [some (.ref 2), some (.int l1), some (.int l2), some (.int (l3 + 1)), some (.int l4), some (.int l5), some (.int (zv_X11_signAt I l2))] [.int 2, .int l2] (zz_S F r4.2.1 J) _ _
                refine zs_145_127 ?_
                exact zz_wk [true, true, true, true, true, true, false] rfl (ih135 _ _ _ _ _ _ _ _ hr)
              · rw [if_neg h7] at hr
                refine And.intro (fun (h8 : ¬ (zv_X11_signAt I l2) = 119) => ?_) (fun (h8 : ¬ (¬ (zv_X11_signAt I l2) = 119)) => ?_)
                · rw [if_pos h8] at hr
                  show zz_run _ 145 126 [some (.ref 2), some (.int l1), some (.int l2), some (.int (l3 + 1)), some (.int l4), some (.int l5), some (.int (zv_X11_signAt I l2))] [.int l2] (zz_S F r4.2.1 J) _ _
                  refine zs_145_126 ?_
                  show zz_run _ 145 127 [some (.ref 2), some (.int l1), some (.int l2), some (.int (l3 + 1)), some (.int l4), some (.int l5), some (.int (zv_X11_signAt I l2))] [.int 1, .int l2] (zz_S F r4.2.1 J) _ _
                  refine zs_145_127 ?_
                  exact zz_wk [true, true, true, true, true, true, false] rfl (ih135 _ _ _ _ _ _ _ _ hr)
                · rw [if_neg h8] at hr
                  show zz_run _ 145 122 [some (.ref 2), some (.int l1), some (.int l2), some (.int (l3 + 1)), some (.int l4), some (.int l5), some (.int (zv_X11_signAt I l2))] [.int l2] (zz_S F r4.2.1 J) _ _
                  refine zs_145_122 ?_
                  show zz_run _ 145 127 [some (.ref 2), some (.int l1), some (.int l2), some (.int (l3 + 1)), some (.int l4), some (.int l5), some (.int (zv_X11_signAt I l2))] [.int 2, .int l2] (zz_S F r4.2.1 J) _ _
                  refine zs_145_127 ?_
                  exact zz_wk [true, true, true, true, true, true, false] rfl (ih135 _ _ _ _ _ _ _ _ hr)
    · intro l1 l2 l3 l4 l5 I J r hr
      rw [ze_X11_evening_135] at hr
      unfold zb_X11_evening_135 at hr
      refine zs_145_135 ?_
      exact zz_wk [true, true, true, true, true, true, false] rfl (ih65 _ _ _ _ _ _ _ _ hr)
    · intro l1 l2 l3 l4 l5 I J r hr
      rw [ze_X11_evening_141] at hr
      unfold zb_X11_evening_141 at hr
      refine zs_145_141 ?_
      refine And.intro (fun (h9 : l3 ≤ 0) => ?_) (fun (h9 : ¬ (l3 ≤ 0)) => ?_)
      · rw [if_pos h9] at hr
        exact zz_wk [true, false, false, true, true, false, false] rfl (ih152 _ _ _ _ _ _ _ _ hr)
      · rw [if_neg h9] at hr
        refine And.intro (rfl) (And.intro (rfl) (And.intro (Nat.le_of_ble_eq_true rfl) (And.intro (Nat.le_of_ble_eq_true rfl) (And.intro (Nat.le_of_ble_eq_true rfl) ?_))))
        obtain ⟨r5, cr5, hr⟩ := Option.bind_eq_some_iff.mp hr
        refine Exists.intro _ (Exists.intro _ (And.intro (zr_X6_pushHeld F I J (d+3) N  r5 cr5) ?_))
        exact zz_wk [true, false, false, true, true, false, false] rfl (ih152 _ _ _ _ _ _ _ _ hr)
    · intro l1 l2 l3 l4 l5 I J r hr
      rw [ze_X11_evening_152] at hr
      unfold zb_X11_evening_152 at hr
      refine zs_145_152 ?_
      refine And.intro (fun (h10 : l4 = 0) => ?_) (fun (h10 : ¬ (l4 = 0)) => ?_)
      · rw [if_pos h10] at hr
        show zz_run _ 145 162 [some (.ref 2), none, none, some (.int l3), some (.int l4), none, none] [.ref 2] (zz_S F I J) _ _
        refine zs_145_162 ?_
        show zz_run _ 145 163 [some (.ref 2), none, none, some (.int l3), some (.int l4), none, none] [.long 0, .ref 2] (zz_S F I J) _ _
        refine zs_145_163 ?_
        refine And.intro (rfl) (And.intro (rfl) (And.intro (rfl) (And.intro (Nat.le_of_ble_eq_true rfl) (And.intro (Nat.le_of_ble_eq_true rfl) (And.intro (Nat.le_of_ble_eq_true rfl) ?_)))))
        refine Exists.intro _ (Exists.intro _ (And.intro (zr_X11_tell_ F I J (d+3) 0 ((I 8 0).toInt64)) ?_))
        replace hr := Option.some.inj hr
        subst hr
        exact And.intro rfl (And.intro rfl rfl)
      · rw [if_neg h10] at hr
        show zz_run _ 145 163 [some (.ref 2), none, none, some (.int l3), some (.int l4), none, none] [.long 1, .ref 2] (zz_S F I J) _ _
        refine zs_145_163 ?_
        refine And.intro (rfl) (And.intro (rfl) (And.intro (rfl) (And.intro (Nat.le_of_ble_eq_true rfl) (And.intro (Nat.le_of_ble_eq_true rfl) (And.intro (Nat.le_of_ble_eq_true rfl) ?_)))))
        refine Exists.intro _ (Exists.intro _ (And.intro (zr_X11_tell_ F I J (d+3) 1 ((I 8 0).toInt64)) ?_))
        replace hr := Option.some.inj hr
        subst hr
        exact And.intro rfl (And.intro rfl rfl)
theorem zr_X11_evening (F : zz_F) (I : Nat → Nat → Int32) (J : Nat → Nat → Int64) (d N : Nat)  (r : Int32 × (Nat → Nat → Int32) × (Nat → Nat → Int64)) (h : zf_X11_evening N  I J = some r) : zz_run (d+6) 145 0 [some (.ref 2), none, none, none, none, none, none] [] (zz_S F I J) (some (.int r.1)) (zz_S F (r.2.1) (r.2.2)) := (zq_X11_evening F d N N).1 0 0 0 0 0 I J r h
