/-! printed by wip/whole/loop2.py -/
def zb_X12_rule_0 (N : Nat) (rec : Nat → Int32 → Int32 → (Nat → Nat → Int32) → (Nat → Nat → Int64) → zz_F → Option (Int32 × (Nat → Nat → Int32) × (Nat → Nat → Int64) × zz_F)) (l1 : Int32) (l2 : Int32) (I : Nat → Nat → Int32) (J : Nat → Nat → Int64) (F : zz_F) : Option (Int32 × (Nat → Nat → Int32) × (Nat → Nat → Int64) × zz_F) := (zf_X12_readRule N  (zz_u I 52 7 0) J F).bind fun r1 => if ¬ r1.1 = 0 then (rec 26 (I 52 4) 0 r1.2.1 r1.2.2.1 r1.2.2.2) else (some (((-1)) - (r1.2.1 52 12), r1.2.1, r1.2.2.1, r1.2.2.2))
def zb_X12_rule_26 (N : Nat) (rec : Nat → Int32 → Int32 → (Nat → Nat → Int32) → (Nat → Nat → Int64) → zz_F → Option (Int32 × (Nat → Nat → Int32) × (Nat → Nat → Int64) × zz_F)) (l1 : Int32) (l2 : Int32) (I : Nat → Nat → Int32) (J : Nat → Nat → Int64) (F : zz_F) : Option (Int32 × (Nat → Nat → Int32) × (Nat → Nat → Int64) × zz_F) := if l1 ≤ l2 then (some (0, zz_u I 52 16 l1, J, F)) else (if ¬ (l2 < 0 ∨ 80 ≤ l2.toNatClampNeg) then (if zz_XK F.2.2.1 (zz_ru F) = 12 then (if ¬ (l2 < 0 ∨ (zz_XL F.2.2.2.2.1 F.2.2.2.1 (zz_ru F)) ≤ l2.toNatClampNeg) then (rec 26 l1 (l2 + 1) (zz_u I (zz_ru F) l2.toNatClampNeg (vp_nar (if zz_XK F.2.2.1 (zz_ru F) = 12 then .byte else .boolean) (I 55 l2.toNatClampNeg))) J F) else none) else none) else none)
def zl_X12_rule (N : Nat) : Nat → Nat → Int32 → Int32 → (Nat → Nat → Int32) → (Nat → Nat → Int64) → zz_F → Option (Int32 × (Nat → Nat → Int32) × (Nat → Nat → Int64) × zz_F)
  | 0 => fun _ _ _ _ _ _ => none
  | n + 1 => fun pc l1 l2 I J F => if pc = 0 then zb_X12_rule_0 N (zl_X12_rule N n) l1 l2 I J F else (if pc = 26 then zb_X12_rule_26 N (zl_X12_rule N n) l1 l2 I J F else none)
theorem ze_X12_rule_0 (N : Nat) (n : Nat) (l1 : Int32) (l2 : Int32) (I : Nat → Nat → Int32) (J : Nat → Nat → Int64) (F : zz_F) : zl_X12_rule N (n+1) 0 l1 l2 I J F = zb_X12_rule_0 N (zl_X12_rule N n) l1 l2 I J F := by
  show (if 0 = 0 then zb_X12_rule_0 N (zl_X12_rule N n) l1 l2 I J F else (if 0 = 26 then zb_X12_rule_26 N (zl_X12_rule N n) l1 l2 I J F else none)) = _
  rw [if_pos rfl]
theorem ze_X12_rule_26 (N : Nat) (n : Nat) (l1 : Int32) (l2 : Int32) (I : Nat → Nat → Int32) (J : Nat → Nat → Int64) (F : zz_F) : zl_X12_rule N (n+1) 26 l1 l2 I J F = zb_X12_rule_26 N (zl_X12_rule N n) l1 l2 I J F := by
  show (if 26 = 0 then zb_X12_rule_0 N (zl_X12_rule N n) l1 l2 I J F else (if 26 = 26 then zb_X12_rule_26 N (zl_X12_rule N n) l1 l2 I J F else none)) = _
  rw [if_neg (by decide), if_pos rfl]
def zf_X12_rule (N : Nat)  (I : Nat → Nat → Int32) (J : Nat → Nat → Int64) (F : zz_F) : Option (Int32 × (Nat → Nat → Int32) × (Nat → Nat → Int64) × zz_F) := zl_X12_rule N N 0 0 0 I J F
set_option maxHeartbeats 16000000 in
theorem zq_X12_rule (d N : Nat) : ∀ n : Nat, (∀ (l1 : Int32) (l2 : Int32) (I : Nat → Nat → Int32) (J : Nat → Nat → Int64) (F : zz_F) (r : Int32 × (Nat → Nat → Int32) × (Nat → Nat → Int64) × zz_F), zl_X12_rule N n 0 l1 l2 I J F = some r → zz_run (d+69) 230 0 [some (.ref 52), none, none] [] (zz_S F I J) (some (.int r.1)) (zz_S (r.2.2.2) (r.2.1) (r.2.2.1))) ∧ (∀ (l1 : Int32) (l2 : Int32) (I : Nat → Nat → Int32) (J : Nat → Nat → Int64) (F : zz_F) (r : Int32 × (Nat → Nat → Int32) × (Nat → Nat → Int64) × zz_F), zl_X12_rule N n 26 l1 l2 I J F = some r → zz_run (d+69) 230 26 [some (.ref 52), some (.int l1), some (.int l2)] [] (zz_S F I J) (some (.int r.1)) (zz_S (r.2.2.2) (r.2.1) (r.2.2.1))) := by
  intro n
  induction n with
  | zero => exact ⟨fun _ _ _ _ _ _ h => zz_no h, fun _ _ _ _ _ _ h => zz_no h⟩
  | succ n ih =>
    obtain ⟨ih0, ih26⟩ := ih
    refine ⟨?_, ?_⟩
    · intro l1 l2 I J F r hr
      rw [ze_X12_rule_0] at hr
      unfold zb_X12_rule_0 at hr
      refine zs_230_0 ?_
      refine And.intro (rfl) (And.intro (rfl) (And.intro (And.intro rfl rfl) (And.intro (rfl) (And.intro (rfl) (And.intro (Nat.le_of_ble_eq_true rfl) ?_)))))
      refine And.intro (Nat.le_of_ble_eq_true rfl) (And.intro (Nat.le_of_ble_eq_true rfl) ?_)
      obtain ⟨r1, cr1, hr⟩ := Option.bind_eq_some_iff.mp hr
      refine Exists.intro _ (Exists.intro _ (And.intro (zr_X12_readRule d N  (zz_u I 52 7 0) J F r1 cr1) ?_))
      refine And.intro (fun (h1 : ¬ r1.1 = 0) => ?_) (fun (h1 : ¬ (¬ r1.1 = 0)) => ?_)
      · rw [if_pos h1] at hr
        show zz_run _ 230 24 [some (.ref 52), some (.int (I 52 4)), none] [] (zz_S r1.2.2.2 r1.2.1 r1.2.2.1) _ _
        refine zs_230_24 ?_
        exact zz_wk [true, true, true] rfl (ih26 _ _ _ _ _ _ hr)
      · rw [if_neg h1] at hr
        refine And.intro (rfl) ?_
        replace hr := Option.some.inj hr
        subst hr
        exact And.intro rfl (And.intro rfl rfl)
    · intro l1 l2 I J F r hr
      rw [ze_X12_rule_26] at hr
      unfold zb_X12_rule_26 at hr
      refine zs_230_26 ?_
      refine And.intro (fun (h2 : l1 ≤ l2) => ?_) (fun (h2 : ¬ (l1 ≤ l2)) => ?_)
      · rw [if_pos h2] at hr
        show zz_run _ 230 49 [some (.ref 52), some (.int l1), some (.int l2)] [] (zz_S F I J) _ _
        refine zs_230_49 ?_
        refine And.intro (rfl) (And.intro (rfl) (And.intro (And.intro rfl rfl) ?_))
        replace hr := Option.some.inj hr
        subst hr
        exact And.intro rfl (And.intro rfl rfl)
      · rw [if_neg h2] at hr
        refine And.intro (rfl) (And.intro (rfl) (And.intro (Or.inl rfl) ?_))
        have g2 : ¬ (l2 < 0 ∨ 80 ≤ l2.toNatClampNeg) := zz_g hr
        replace hr := zz_gt hr
        refine And.intro (g2) ?_
        have g3 : zz_XK F.2.2.1 (zz_ru F) = 12 := zz_g hr
        replace hr := zz_gt hr
        refine And.intro (Or.inl g3) ?_
        have g4 : ¬ (l2 < 0 ∨ (zz_XL F.2.2.2.2.1 F.2.2.2.1 (zz_ru F)) ≤ l2.toNatClampNeg) := zz_g hr
        replace hr := zz_gt hr
        refine And.intro (g4) ?_
        exact zz_wk [true, true, true] rfl (ih26 _ _ _ _ _ _ hr)
theorem zr_X12_rule (d N : Nat)  (I : Nat → Nat → Int32) (J : Nat → Nat → Int64) (F : zz_F) (r : Int32 × (Nat → Nat → Int32) × (Nat → Nat → Int64) × zz_F) (h : zf_X12_rule N  I J F = some r) : zz_run (d+69) 230 0 [some (.ref 52), none, none] [] (zz_S F I J) (some (.int r.1)) (zz_S (r.2.2.2) (r.2.1) (r.2.2.1)) := (zq_X12_rule d N N).1 0 0 I J F r h
def zb_X12_changeOf_0 (N : Nat) (rec : Nat → Int32 → Int32 → (Nat → Nat → Int32) → (Nat → Nat → Int64) → zz_F → Option (Int32 × (Nat → Nat → Int32) × (Nat → Nat → Int64) × zz_F)) (l1 : Int32) (l2 : Int32) (I : Nat → Nat → Int32) (J : Nat → Nat → Int64) (F : zz_F) : Option (Int32 × (Nat → Nat → Int32) × (Nat → Nat → Int64) × zz_F) := if ¬ (((7 * l1) + 0) < 0 ∨ 84 ≤ ((7 * l1) + 0).toNatClampNeg) then (if ¬ (((7 * l2) + 0) < 0 ∨ 84 ≤ ((7 * l2) + 0).toNatClampNeg) then (if ¬ (zv_X12_playOf I l1) = (zv_X12_playOf I l2) then (if ¬ (((7 * l1) + 2) < 0 ∨ 84 ≤ ((7 * l1) + 2).toNatClampNeg) then (if ¬ (((7 * l2) + 2) < 0 ∨ 84 ≤ ((7 * l2) + 2).toNatClampNeg) then (if ¬ (((7 * l1) + 3) < 0 ∨ 84 ≤ ((7 * l1) + 3).toNatClampNeg) then (if ¬ (((7 * l2) + 3) < 0 ∨ 84 ≤ ((7 * l2) + 3).toNatClampNeg) then (if (I 52 16) ≤ 0 then (some (zz_max 0 (zz_min 99 ((((2 : Int32) * 1) + (zv_J6_bitCount ((zv_X12_field I l1 2) &&& (zv_X12_field I l2 2)))) + (zv_J6_bitCount ((zv_X12_field I l1 3) ^^^ (zv_X12_field I l2 3))))), I, J, F)) else (if ¬ (((7 * l2) + 1) < 0 ∨ 84 ≤ ((7 * l2) + 1).toNatClampNeg) then (if ¬ (((7 * l1) + 1) < 0 ∨ 84 ≤ ((7 * l1) + 1).toNatClampNeg) then ((zf_X12_begin N (zz_ru F) (I 52 16) 40 (zz_u (zz_u (zz_u (zz_u (zz_u (zz_u I 60 0 1) 60 1 (zv_J6_bitCount ((zv_X12_field I l1 2) &&& (zv_X12_field I l2 2)))) 60 2 (zv_J6_bitCount ((zv_X12_field I l1 3) ^^^ (zv_X12_field I l2 3)))) 60 3 (zv_X12_field I l2 1)) 60 4 (zv_X12_field I l1 1)) 60 5 (zv_J6_bitCount (zv_X12_field I l2 2))) J F).bind fun r9 => (zf_X12_held_ N 0 (zz_u r9.2.1 52 17 1) r9.2.2.1 r9.2.2.2).bind fun r10 => some (zz_max 0 (zz_min 99 r10.1), zz_u r10.2.1 52 17 0, r10.2.2.1, r10.2.2.2)) else none) else none)) else none) else none) else none) else none) else (if ¬ (((7 * l1) + 2) < 0 ∨ 84 ≤ ((7 * l1) + 2).toNatClampNeg) then (if ¬ (((7 * l2) + 2) < 0 ∨ 84 ≤ ((7 * l2) + 2).toNatClampNeg) then (if ¬ (((7 * l1) + 3) < 0 ∨ 84 ≤ ((7 * l1) + 3).toNatClampNeg) then (if ¬ (((7 * l2) + 3) < 0 ∨ 84 ≤ ((7 * l2) + 3).toNatClampNeg) then (if (I 52 16) ≤ 0 then (some (zz_max 0 (zz_min 99 ((((2 : Int32) * 0) + (zv_J6_bitCount ((zv_X12_field I l1 2) &&& (zv_X12_field I l2 2)))) + (zv_J6_bitCount ((zv_X12_field I l1 3) ^^^ (zv_X12_field I l2 3))))), I, J, F)) else (if ¬ (((7 * l2) + 1) < 0 ∨ 84 ≤ ((7 * l2) + 1).toNatClampNeg) then (if ¬ (((7 * l1) + 1) < 0 ∨ 84 ≤ ((7 * l1) + 1).toNatClampNeg) then ((zf_X12_begin N (zz_ru F) (I 52 16) 40 (zz_u (zz_u (zz_u (zz_u (zz_u (zz_u I 60 0 0) 60 1 (zv_J6_bitCount ((zv_X12_field I l1 2) &&& (zv_X12_field I l2 2)))) 60 2 (zv_J6_bitCount ((zv_X12_field I l1 3) ^^^ (zv_X12_field I l2 3)))) 60 3 (zv_X12_field I l2 1)) 60 4 (zv_X12_field I l1 1)) 60 5 (zv_J6_bitCount (zv_X12_field I l2 2))) J F).bind fun r17 => (zf_X12_held_ N 0 (zz_u r17.2.1 52 17 1) r17.2.2.1 r17.2.2.2).bind fun r18 => some (zz_max 0 (zz_min 99 r18.1), zz_u r18.2.1 52 17 0, r18.2.2.1, r18.2.2.2)) else none) else none)) else none) else none) else none) else none)) else none) else none
def zl_X12_changeOf (N : Nat) : Nat → Nat → Int32 → Int32 → (Nat → Nat → Int32) → (Nat → Nat → Int64) → zz_F → Option (Int32 × (Nat → Nat → Int32) × (Nat → Nat → Int64) × zz_F)
  | 0 => fun _ _ _ _ _ _ => none
  | n + 1 => fun pc l1 l2 I J F => if pc = 0 then zb_X12_changeOf_0 N (zl_X12_changeOf N n) l1 l2 I J F else none
theorem ze_X12_changeOf_0 (N : Nat) (n : Nat) (l1 : Int32) (l2 : Int32) (I : Nat → Nat → Int32) (J : Nat → Nat → Int64) (F : zz_F) : zl_X12_changeOf N (n+1) 0 l1 l2 I J F = zb_X12_changeOf_0 N (zl_X12_changeOf N n) l1 l2 I J F := by
  show (if 0 = 0 then zb_X12_changeOf_0 N (zl_X12_changeOf N n) l1 l2 I J F else none) = _
  rw [if_pos rfl]
def zf_X12_changeOf (N : Nat) (l1 : Int32) (l2 : Int32) (I : Nat → Nat → Int32) (J : Nat → Nat → Int64) (F : zz_F) : Option (Int32 × (Nat → Nat → Int32) × (Nat → Nat → Int64) × zz_F) := zl_X12_changeOf N N 0 l1 l2 I J F
set_option maxHeartbeats 16000000 in
theorem zq_X12_changeOf (d N : Nat) : ∀ n : Nat, (∀ (l1 : Int32) (l2 : Int32) (I : Nat → Nat → Int32) (J : Nat → Nat → Int64) (F : zz_F) (r : Int32 × (Nat → Nat → Int32) × (Nat → Nat → Int64) × zz_F), zl_X12_changeOf N n 0 l1 l2 I J F = some r → zz_run (d+68) 231 0 [some (.ref 52), some (.int l1), some (.int l2), none, none, none, none] [] (zz_S F I J) (some (.int r.1)) (zz_S (r.2.2.2) (r.2.1) (r.2.2.1))) := by
  intro n
  induction n with
  | zero => exact fun _ _ _ _ _ _ h => zz_no h
  | succ n ih =>
    have ih0 := ih
    skip
    · intro l1 l2 I J F r hr
      rw [ze_X12_changeOf_0] at hr
      unfold zb_X12_changeOf_0 at hr
      refine zs_231_0 ?_
      refine And.intro (rfl) (And.intro (Nat.le_of_ble_eq_true rfl) (And.intro (Nat.le_of_ble_eq_true rfl) (And.intro (Nat.le_of_ble_eq_true rfl) ?_)))
      have g1 : ¬ (((7 * l1) + 0) < 0 ∨ 84 ≤ ((7 * l1) + 0).toNatClampNeg) := zz_g hr
      replace hr := zz_gt hr
      refine Exists.intro _ (Exists.intro _ (And.intro (zr_X12_playOf F I J (d+66) l1 g1) ?_))
      refine And.intro (rfl) (And.intro (Nat.le_of_ble_eq_true rfl) (And.intro (Nat.le_of_ble_eq_true rfl) (And.intro (Nat.le_of_ble_eq_true rfl) ?_)))
      have g2 : ¬ (((7 * l2) + 0) < 0 ∨ 84 ≤ ((7 * l2) + 0).toNatClampNeg) := zz_g hr
      replace hr := zz_gt hr
      refine Exists.intro _ (Exists.intro _ (And.intro (zr_X12_playOf F I J (d+66) l2 g2) ?_))
      refine And.intro (fun (h1 : ¬ (zv_X12_playOf I l1) = (zv_X12_playOf I l2)) => ?_) (fun (h1 : ¬ (¬ (zv_X12_playOf I l1) = (zv_X12_playOf I l2))) => ?_)
      · rw [if_pos h1] at hr
        show zz_run _ 231 17 [some (.ref 52), some (.int l1), some (.int l2), none, none, none, none] [] (zz_S F I J) _ _
        refine zs_231_17 ?_
        show zz_run _ 231 18 [some (.ref 52), some (.int l1), some (.int l2), none, none, none, none] [.int 1] (zz_S F I J) _ _
        refine zs_231_18 ?_
        refine And.intro (rfl) (And.intro (Nat.le_of_ble_eq_true rfl) (And.intro (Nat.le_of_ble_eq_true rfl) (And.intro (Nat.le_of_ble_eq_true rfl) ?_)))
        have g3 : ¬ (((7 * l1) + 2) < 0 ∨ 84 ≤ ((7 * l1) + 2).toNatClampNeg) := zz_g hr
        replace hr := zz_gt hr
        refine Exists.intro _ (Exists.intro _ (And.intro (zr_X12_field F I J (d+67) l1 2 g3) ?_))
        refine And.intro (rfl) (And.intro (Nat.le_of_ble_eq_true rfl) (And.intro (Nat.le_of_ble_eq_true rfl) (And.intro (Nat.le_of_ble_eq_true rfl) ?_)))
        have g4 : ¬ (((7 * l2) + 2) < 0 ∨ 84 ≤ ((7 * l2) + 2).toNatClampNeg) := zz_g hr
        replace hr := zz_gt hr
        refine Exists.intro _ (Exists.intro _ (And.intro (zr_X12_field F I J (d+67) l2 2 g4) ?_))
        refine And.intro (Nat.le_of_ble_eq_true rfl) (And.intro (Nat.le_of_ble_eq_true rfl) (And.intro (Nat.le_of_ble_eq_true rfl) ?_))
        refine Exists.intro _ (Exists.intro _ (And.intro (zr_J6_bitCount F I J (d+67) ((zv_X12_field I l1 2) &&& (zv_X12_field I l2 2))) ?_))
        refine And.intro (rfl) (And.intro (Nat.le_of_ble_eq_true rfl) (And.intro (Nat.le_of_ble_eq_true rfl) (And.intro (Nat.le_of_ble_eq_true rfl) ?_)))
        have g5 : ¬ (((7 * l1) + 3) < 0 ∨ 84 ≤ ((7 * l1) + 3).toNatClampNeg) := zz_g hr
        replace hr := zz_gt hr
        refine Exists.intro _ (Exists.intro _ (And.intro (zr_X12_field F I J (d+67) l1 3 g5) ?_))
        refine And.intro (rfl) (And.intro (Nat.le_of_ble_eq_true rfl) (And.intro (Nat.le_of_ble_eq_true rfl) (And.intro (Nat.le_of_ble_eq_true rfl) ?_)))
        have g6 : ¬ (((7 * l2) + 3) < 0 ∨ 84 ≤ ((7 * l2) + 3).toNatClampNeg) := zz_g hr
        replace hr := zz_gt hr
        refine Exists.intro _ (Exists.intro _ (And.intro (zr_X12_field F I J (d+67) l2 3 g6) ?_))
        refine And.intro (Nat.le_of_ble_eq_true rfl) (And.intro (Nat.le_of_ble_eq_true rfl) (And.intro (Nat.le_of_ble_eq_true rfl) ?_))
        refine Exists.intro _ (Exists.intro _ (And.intro (zr_J6_bitCount F I J (d+67) ((zv_X12_field I l1 3) ^^^ (zv_X12_field I l2 3))) ?_))
        refine And.intro (rfl) (And.intro (fun (h2 : (I 52 16) ≤ 0) => ?_) (fun (h2 : ¬ ((I 52 16) ≤ 0)) => ?_))
        · rw [if_pos h2] at hr
          show zz_run _ 231 166 [some (.ref 52), some (.int l1), some (.int l2), some (.int 1), some (.int (zv_J6_bitCount ((zv_X12_field I l1 2) &&& (zv_X12_field I l2 2)))), some (.int (zv_J6_bitCount ((zv_X12_field I l1 3) ^^^ (zv_X12_field I l2 3)))), some (.int ((((2 : Int32) * 1) + (zv_J6_bitCount ((zv_X12_field I l1 2) &&& (zv_X12_field I l2 2)))) + (zv_J6_bitCount ((zv_X12_field I l1 3) ^^^ (zv_X12_field I l2 3)))))] [] (zz_S F I J) _ _
          refine zs_231_166 ?_
          refine And.intro (Nat.le_of_ble_eq_true rfl) (And.intro (Nat.le_of_ble_eq_true rfl) (And.intro (Nat.le_of_ble_eq_true rfl) ?_))
          refine Exists.intro _ (Exists.intro _ (And.intro (zr_min F I J (d+67) 99 ((((2 : Int32) * 1) + (zv_J6_bitCount ((zv_X12_field I l1 2) &&& (zv_X12_field I l2 2)))) + (zv_J6_bitCount ((zv_X12_field I l1 3) ^^^ (zv_X12_field I l2 3))))) ?_))
          refine And.intro (Nat.le_of_ble_eq_true rfl) (And.intro (Nat.le_of_ble_eq_true rfl) (And.intro (Nat.le_of_ble_eq_true rfl) ?_))
          refine Exists.intro _ (Exists.intro _ (And.intro (zr_max F I J (d+67) 0 (zz_min 99 ((((2 : Int32) * 1) + (zv_J6_bitCount ((zv_X12_field I l1 2) &&& (zv_X12_field I l2 2)))) + (zv_J6_bitCount ((zv_X12_field I l1 3) ^^^ (zv_X12_field I l2 3)))))) ?_))
          replace hr := Option.some.inj hr
          subst hr
          exact And.intro rfl (And.intro rfl rfl)
        · rw [if_neg h2] at hr
          refine And.intro (rfl) (And.intro (rfl) (And.intro (zz_vk (k := 0) rfl rfl) (And.intro (rfl) (And.intro (rfl) (And.intro (zz_vk (k := 1) rfl rfl) ?_)))))
          refine And.intro (rfl) (And.intro (rfl) (And.intro (zz_vk (k := 2) rfl rfl) (And.intro (rfl) (And.intro (rfl) (And.intro (Nat.le_of_ble_eq_true rfl) ?_)))))
          refine And.intro (Nat.le_of_ble_eq_true rfl) (And.intro (Nat.le_of_ble_eq_true rfl) ?_)
          have g7 : ¬ (((7 * l2) + 1) < 0 ∨ 84 ≤ ((7 * l2) + 1).toNatClampNeg) := zz_g hr
          replace hr := zz_gt hr
          refine Exists.intro (some (.int (zv_X12_field I l2 1))) (Exists.intro _ (And.intro (zr_X12_field F (zz_u (zz_u (zz_u I 60 0 1) 60 1 (zv_J6_bitCount ((zv_X12_field I l1 2) &&& (zv_X12_field I l2 2)))) 60 2 (zv_J6_bitCount ((zv_X12_field I l1 3) ^^^ (zv_X12_field I l2 3)))) J (d+67) l2 1 g7) ?_))
          refine And.intro (rfl) (And.intro (zz_vk (k := 3) rfl rfl) (And.intro (rfl) (And.intro (rfl) (And.intro (Nat.le_of_ble_eq_true rfl) (And.intro (Nat.le_of_ble_eq_true rfl) ?_)))))
          refine And.intro (Nat.le_of_ble_eq_true rfl) ?_
          have g8 : ¬ (((7 * l1) + 1) < 0 ∨ 84 ≤ ((7 * l1) + 1).toNatClampNeg) := zz_g hr
          replace hr := zz_gt hr
          refine Exists.intro (some (.int (zv_X12_field I l1 1))) (Exists.intro _ (And.intro (zr_X12_field F (zz_u (zz_u (zz_u (zz_u I 60 0 1) 60 1 (zv_J6_bitCount ((zv_X12_field I l1 2) &&& (zv_X12_field I l2 2)))) 60 2 (zv_J6_bitCount ((zv_X12_field I l1 3) ^^^ (zv_X12_field I l2 3)))) 60 3 (zv_X12_field I l2 1)) J (d+67) l1 1 g8) ?_))
          refine And.intro (rfl) (And.intro (zz_vk (k := 4) rfl rfl) (And.intro (rfl) (And.intro (rfl) (And.intro (Nat.le_of_ble_eq_true rfl) (And.intro (Nat.le_of_ble_eq_true rfl) ?_)))))
          refine And.intro (Nat.le_of_ble_eq_true rfl) ?_
          refine Exists.intro (some (.int (zv_X12_field I l2 2))) (Exists.intro _ (And.intro (zr_X12_field F (zz_u (zz_u (zz_u (zz_u (zz_u I 60 0 1) 60 1 (zv_J6_bitCount ((zv_X12_field I l1 2) &&& (zv_X12_field I l2 2)))) 60 2 (zv_J6_bitCount ((zv_X12_field I l1 3) ^^^ (zv_X12_field I l2 3)))) 60 3 (zv_X12_field I l2 1)) 60 4 (zv_X12_field I l1 1)) J (d+67) l2 2 g4) ?_))
          refine And.intro (Nat.le_of_ble_eq_true rfl) (And.intro (Nat.le_of_ble_eq_true rfl) (And.intro (Nat.le_of_ble_eq_true rfl) ?_))
          refine Exists.intro _ (Exists.intro _ (And.intro (zr_J6_bitCount F (zz_u (zz_u (zz_u (zz_u (zz_u I 60 0 1) 60 1 (zv_J6_bitCount ((zv_X12_field I l1 2) &&& (zv_X12_field I l2 2)))) 60 2 (zv_J6_bitCount ((zv_X12_field I l1 3) ^^^ (zv_X12_field I l2 3)))) 60 3 (zv_X12_field I l2 1)) 60 4 (zv_X12_field I l1 1)) J (d+67) (zv_X12_field I l2 2)) ?_))
          refine And.intro (rfl) (And.intro (zz_vk (k := 5) rfl rfl) (And.intro (rfl) (And.intro (rfl) (And.intro (rfl) (And.intro (Nat.le_of_ble_eq_true rfl) ?_)))))
          refine And.intro (Nat.le_of_ble_eq_true rfl) (And.intro (Nat.le_of_ble_eq_true rfl) ?_)
          obtain ⟨r9, cr9, hr⟩ := Option.bind_eq_some_iff.mp hr
          refine Exists.intro _ (Exists.intro _ (And.intro (zr_X12_begin (d+67) N (zz_ru F) (I 52 16) 40 (zz_u (zz_u (zz_u (zz_u (zz_u (zz_u I 60 0 1) 60 1 (zv_J6_bitCount ((zv_X12_field I l1 2) &&& (zv_X12_field I l2 2)))) 60 2 (zv_J6_bitCount ((zv_X12_field I l1 3) ^^^ (zv_X12_field I l2 3)))) 60 3 (zv_X12_field I l2 1)) 60 4 (zv_X12_field I l1 1)) 60 5 (zv_J6_bitCount (zv_X12_field I l2 2))) J F r9 cr9) ?_))
          refine And.intro (rfl) (And.intro (rfl) (And.intro (And.intro rfl rfl) (And.intro (rfl) (And.intro (Nat.le_of_ble_eq_true rfl) (And.intro (Nat.le_of_ble_eq_true rfl) ?_)))))
          refine And.intro (Nat.le_of_ble_eq_true rfl) ?_
          obtain ⟨r10, cr10, hr⟩ := Option.bind_eq_some_iff.mp hr
          refine Exists.intro _ (Exists.intro _ (And.intro (zr_X12_held_ d N 0 (zz_u r9.2.1 52 17 1) r9.2.2.1 r9.2.2.2 r10 cr10) ?_))
          refine And.intro (rfl) (And.intro (rfl) (And.intro (And.intro rfl rfl) ?_))
          show zz_run _ 231 166 [some (.ref 52), some (.int l1), some (.int l2), some (.int 1), some (.int (zv_J6_bitCount ((zv_X12_field I l1 2) &&& (zv_X12_field I l2 2)))), some (.int (zv_J6_bitCount ((zv_X12_field I l1 3) ^^^ (zv_X12_field I l2 3)))), some (.int r10.1)] [] (zz_S r10.2.2.2 (zz_u r10.2.1 52 17 0) r10.2.2.1) _ _
          refine zs_231_166 ?_
          refine And.intro (Nat.le_of_ble_eq_true rfl) (And.intro (Nat.le_of_ble_eq_true rfl) (And.intro (Nat.le_of_ble_eq_true rfl) ?_))
          refine Exists.intro _ (Exists.intro _ (And.intro (zr_min r10.2.2.2 (zz_u r10.2.1 52 17 0) r10.2.2.1 (d+67) 99 r10.1) ?_))
          refine And.intro (Nat.le_of_ble_eq_true rfl) (And.intro (Nat.le_of_ble_eq_true rfl) (And.intro (Nat.le_of_ble_eq_true rfl) ?_))
          refine Exists.intro _ (Exists.intro _ (And.intro (zr_max r10.2.2.2 (zz_u r10.2.1 52 17 0) r10.2.2.1 (d+67) 0 (zz_min 99 r10.1)) ?_))
          replace hr := Option.some.inj hr
          subst hr
          exact And.intro rfl (And.intro rfl rfl)
      · rw [if_neg h1] at hr
        show zz_run _ 231 18 [some (.ref 52), some (.int l1), some (.int l2), none, none, none, none] [.int 0] (zz_S F I J) _ _
        refine zs_231_18 ?_
        refine And.intro (rfl) (And.intro (Nat.le_of_ble_eq_true rfl) (And.intro (Nat.le_of_ble_eq_true rfl) (And.intro (Nat.le_of_ble_eq_true rfl) ?_)))
        have g11 : ¬ (((7 * l1) + 2) < 0 ∨ 84 ≤ ((7 * l1) + 2).toNatClampNeg) := zz_g hr
        replace hr := zz_gt hr
        refine Exists.intro _ (Exists.intro _ (And.intro (zr_X12_field F I J (d+67) l1 2 g11) ?_))
        refine And.intro (rfl) (And.intro (Nat.le_of_ble_eq_true rfl) (And.intro (Nat.le_of_ble_eq_true rfl) (And.intro (Nat.le_of_ble_eq_true rfl) ?_)))
        have g12 : ¬ (((7 * l2) + 2) < 0 ∨ 84 ≤ ((7 * l2) + 2).toNatClampNeg) := zz_g hr
        replace hr := zz_gt hr
        refine Exists.intro _ (Exists.intro _ (And.intro (zr_X12_field F I J (d+67) l2 2 g12) ?_))
        refine And.intro (Nat.le_of_ble_eq_true rfl) (And.intro (Nat.le_of_ble_eq_true rfl) (And.intro (Nat.le_of_ble_eq_true rfl) ?_))
        refine Exists.intro _ (Exists.intro _ (And.intro (zr_J6_bitCount F I J (d+67) ((zv_X12_field I l1 2) &&& (zv_X12_field I l2 2))) ?_))
        refine And.intro (rfl) (And.intro (Nat.le_of_ble_eq_true rfl) (And.intro (Nat.le_of_ble_eq_true rfl) (And.intro (Nat.le_of_ble_eq_true rfl) ?_)))
        have g13 : ¬ (((7 * l1) + 3) < 0 ∨ 84 ≤ ((7 * l1) + 3).toNatClampNeg) := zz_g hr
        replace hr := zz_gt hr
        refine Exists.intro _ (Exists.intro _ (And.intro (zr_X12_field F I J (d+67) l1 3 g13) ?_))
        refine And.intro (rfl) (And.intro (Nat.le_of_ble_eq_true rfl) (And.intro (Nat.le_of_ble_eq_true rfl) (And.intro (Nat.le_of_ble_eq_true rfl) ?_)))
        have g14 : ¬ (((7 * l2) + 3) < 0 ∨ 84 ≤ ((7 * l2) + 3).toNatClampNeg) := zz_g hr
        replace hr := zz_gt hr
        refine Exists.intro _ (Exists.intro _ (And.intro (zr_X12_field F I J (d+67) l2 3 g14) ?_))
        refine And.intro (Nat.le_of_ble_eq_true rfl) (And.intro (Nat.le_of_ble_eq_true rfl) (And.intro (Nat.le_of_ble_eq_true rfl) ?_))
        refine Exists.intro _ (Exists.intro _ (And.intro (zr_J6_bitCount F I J (d+67) ((zv_X12_field I l1 3) ^^^ (zv_X12_field I l2 3))) ?_))
        refine And.intro (rfl) (And.intro (fun (h3 : (I 52 16) ≤ 0) => ?_) (fun (h3 : ¬ ((I 52 16) ≤ 0)) => ?_))
        · rw [if_pos h3] at hr
          show zz_run _ 231 166 [some (.ref 52), some (.int l1), some (.int l2), some (.int 0), some (.int (zv_J6_bitCount ((zv_X12_field I l1 2) &&& (zv_X12_field I l2 2)))), some (.int (zv_J6_bitCount ((zv_X12_field I l1 3) ^^^ (zv_X12_field I l2 3)))), some (.int ((((2 : Int32) * 0) + (zv_J6_bitCount ((zv_X12_field I l1 2) &&& (zv_X12_field I l2 2)))) + (zv_J6_bitCount ((zv_X12_field I l1 3) ^^^ (zv_X12_field I l2 3)))))] [] (zz_S F I J) _ _
          refine zs_231_166 ?_
          refine And.intro (Nat.le_of_ble_eq_true rfl) (And.intro (Nat.le_of_ble_eq_true rfl) (And.intro (Nat.le_of_ble_eq_true rfl) ?_))
          refine Exists.intro _ (Exists.intro _ (And.intro (zr_min F I J (d+67) 99 ((((2 : Int32) * 0) + (zv_J6_bitCount ((zv_X12_field I l1 2) &&& (zv_X12_field I l2 2)))) + (zv_J6_bitCount ((zv_X12_field I l1 3) ^^^ (zv_X12_field I l2 3))))) ?_))
          refine And.intro (Nat.le_of_ble_eq_true rfl) (And.intro (Nat.le_of_ble_eq_true rfl) (And.intro (Nat.le_of_ble_eq_true rfl) ?_))
          refine Exists.intro _ (Exists.intro _ (And.intro (zr_max F I J (d+67) 0 (zz_min 99 ((((2 : Int32) * 0) + (zv_J6_bitCount ((zv_X12_field I l1 2) &&& (zv_X12_field I l2 2)))) + (zv_J6_bitCount ((zv_X12_field I l1 3) ^^^ (zv_X12_field I l2 3)))))) ?_))
          replace hr := Option.some.inj hr
          subst hr
          exact And.intro rfl (And.intro rfl rfl)
        · rw [if_neg h3] at hr
          refine And.intro (rfl) (And.intro (rfl) (And.intro (zz_vk (k := 0) rfl rfl) (And.intro (rfl) (And.intro (rfl) (And.intro (zz_vk (k := 1) rfl rfl) ?_)))))
          refine And.intro (rfl) (And.intro (rfl) (And.intro (zz_vk (k := 2) rfl rfl) (And.intro (rfl) (And.intro (rfl) (And.intro (Nat.le_of_ble_eq_true rfl) ?_)))))
          refine And.intro (Nat.le_of_ble_eq_true rfl) (And.intro (Nat.le_of_ble_eq_true rfl) ?_)
          have g15 : ¬ (((7 * l2) + 1) < 0 ∨ 84 ≤ ((7 * l2) + 1).toNatClampNeg) := zz_g hr
          replace hr := zz_gt hr
          refine Exists.intro (some (.int (zv_X12_field I l2 1))) (Exists.intro _ (And.intro (zr_X12_field F (zz_u (zz_u (zz_u I 60 0 0) 60 1 (zv_J6_bitCount ((zv_X12_field I l1 2) &&& (zv_X12_field I l2 2)))) 60 2 (zv_J6_bitCount ((zv_X12_field I l1 3) ^^^ (zv_X12_field I l2 3)))) J (d+67) l2 1 g15) ?_))
          refine And.intro (rfl) (And.intro (zz_vk (k := 3) rfl rfl) (And.intro (rfl) (And.intro (rfl) (And.intro (Nat.le_of_ble_eq_true rfl) (And.intro (Nat.le_of_ble_eq_true rfl) ?_)))))
          refine And.intro (Nat.le_of_ble_eq_true rfl) ?_
          have g16 : ¬ (((7 * l1) + 1) < 0 ∨ 84 ≤ ((7 * l1) + 1).toNatClampNeg) := zz_g hr
          replace hr := zz_gt hr
          refine Exists.intro (some (.int (zv_X12_field I l1 1))) (Exists.intro _ (And.intro (zr_X12_field F (zz_u (zz_u (zz_u (zz_u I 60 0 0) 60 1 (zv_J6_bitCount ((zv_X12_field I l1 2) &&& (zv_X12_field I l2 2)))) 60 2 (zv_J6_bitCount ((zv_X12_field I l1 3) ^^^ (zv_X12_field I l2 3)))) 60 3 (zv_X12_field I l2 1)) J (d+67) l1 1 g16) ?_))
          refine And.intro (rfl) (And.intro (zz_vk (k := 4) rfl rfl) (And.intro (rfl) (And.intro (rfl) (And.intro (Nat.le_of_ble_eq_true rfl) (And.intro (Nat.le_of_ble_eq_true rfl) ?_)))))
          refine And.intro (Nat.le_of_ble_eq_true rfl) ?_
          refine Exists.intro (some (.int (zv_X12_field I l2 2))) (Exists.intro _ (And.intro (zr_X12_field F (zz_u (zz_u (zz_u (zz_u (zz_u I 60 0 0) 60 1 (zv_J6_bitCount ((zv_X12_field I l1 2) &&& (zv_X12_field I l2 2)))) 60 2 (zv_J6_bitCount ((zv_X12_field I l1 3) ^^^ (zv_X12_field I l2 3)))) 60 3 (zv_X12_field I l2 1)) 60 4 (zv_X12_field I l1 1)) J (d+67) l2 2 g12) ?_))
          refine And.intro (Nat.le_of_ble_eq_true rfl) (And.intro (Nat.le_of_ble_eq_true rfl) (And.intro (Nat.le_of_ble_eq_true rfl) ?_))
          refine Exists.intro _ (Exists.intro _ (And.intro (zr_J6_bitCount F (zz_u (zz_u (zz_u (zz_u (zz_u I 60 0 0) 60 1 (zv_J6_bitCount ((zv_X12_field I l1 2) &&& (zv_X12_field I l2 2)))) 60 2 (zv_J6_bitCount ((zv_X12_field I l1 3) ^^^ (zv_X12_field I l2 3)))) 60 3 (zv_X12_field I l2 1)) 60 4 (zv_X12_field I l1 1)) J (d+67) (zv_X12_field I l2 2)) ?_))
          refine And.intro (rfl) (And.intro (zz_vk (k := 5) rfl rfl) (And.intro (rfl) (And.intro (rfl) (And.intro (rfl) (And.intro (Nat.le_of_ble_eq_true rfl) ?_)))))
          refine And.intro (Nat.le_of_ble_eq_true rfl) (And.intro (Nat.le_of_ble_eq_true rfl) ?_)
          obtain ⟨r17, cr17, hr⟩ := Option.bind_eq_some_iff.mp hr
          refine Exists.intro _ (Exists.intro _ (And.intro (zr_X12_begin (d+67) N (zz_ru F) (I 52 16) 40 (zz_u (zz_u (zz_u (zz_u (zz_u (zz_u I 60 0 0) 60 1 (zv_J6_bitCount ((zv_X12_field I l1 2) &&& (zv_X12_field I l2 2)))) 60 2 (zv_J6_bitCount ((zv_X12_field I l1 3) ^^^ (zv_X12_field I l2 3)))) 60 3 (zv_X12_field I l2 1)) 60 4 (zv_X12_field I l1 1)) 60 5 (zv_J6_bitCount (zv_X12_field I l2 2))) J F r17 cr17) ?_))
          refine And.intro (rfl) (And.intro (rfl) (And.intro (And.intro rfl rfl) (And.intro (rfl) (And.intro (Nat.le_of_ble_eq_true rfl) (And.intro (Nat.le_of_ble_eq_true rfl) ?_)))))
          refine And.intro (Nat.le_of_ble_eq_true rfl) ?_
          obtain ⟨r18, cr18, hr⟩ := Option.bind_eq_some_iff.mp hr
          refine Exists.intro _ (Exists.intro _ (And.intro (zr_X12_held_ d N 0 (zz_u r17.2.1 52 17 1) r17.2.2.1 r17.2.2.2 r18 cr18) ?_))
          refine And.intro (rfl) (And.intro (rfl) (And.intro (And.intro rfl rfl) ?_))
          show zz_run _ 231 166 [some (.ref 52), some (.int l1), some (.int l2), some (.int 0), some (.int (zv_J6_bitCount ((zv_X12_field I l1 2) &&& (zv_X12_field I l2 2)))), some (.int (zv_J6_bitCount ((zv_X12_field I l1 3) ^^^ (zv_X12_field I l2 3)))), some (.int r18.1)] [] (zz_S r18.2.2.2 (zz_u r18.2.1 52 17 0) r18.2.2.1) _ _
          refine zs_231_166 ?_
          refine And.intro (Nat.le_of_ble_eq_true rfl) (And.intro (Nat.le_of_ble_eq_true rfl) (And.intro (Nat.le_of_ble_eq_true rfl) ?_))
          refine Exists.intro _ (Exists.intro _ (And.intro (zr_min r18.2.2.2 (zz_u r18.2.1 52 17 0) r18.2.2.1 (d+67) 99 r18.1) ?_))
          refine And.intro (Nat.le_of_ble_eq_true rfl) (And.intro (Nat.le_of_ble_eq_true rfl) (And.intro (Nat.le_of_ble_eq_true rfl) ?_))
          refine Exists.intro _ (Exists.intro _ (And.intro (zr_max r18.2.2.2 (zz_u r18.2.1 52 17 0) r18.2.2.1 (d+67) 0 (zz_min 99 r18.1)) ?_))
          replace hr := Option.some.inj hr
          subst hr
          exact And.intro rfl (And.intro rfl rfl)
theorem zr_X12_changeOf (d N : Nat) (l1 : Int32) (l2 : Int32) (I : Nat → Nat → Int32) (J : Nat → Nat → Int64) (F : zz_F) (r : Int32 × (Nat → Nat → Int32) × (Nat → Nat → Int64) × zz_F) (h : zf_X12_changeOf N l1 l2 I J F = some r) : zz_run (d+68) 231 0 [some (.ref 52), some (.int l1), some (.int l2), none, none, none, none] [] (zz_S F I J) (some (.int r.1)) (zz_S (r.2.2.2) (r.2.1) (r.2.2.1)) := (zq_X12_changeOf d N N) l1 l2 I J F r h
def zb_X12_firstOf_0 (N : Nat) (rec : Nat → Int32 → (Nat → Nat → Int32) → (Nat → Nat → Int64) → Option (Int32 × (Nat → Nat → Int32) × (Nat → Nat → Int64))) (l0 : Int32) (I : Nat → Nat → Int32) (J : Nat → Nat → Int64) : Option (Int32 × (Nat → Nat → Int32) × (Nat → Nat → Int64)) := if ¬ l0 = 0 then ((zf_J6_numberOfTrailingZeros N l0 I J).bind fun r1 => some (r1.1, I, J)) else (some ((-1), I, J))
def zl_X12_firstOf (N : Nat) : Nat → Nat → Int32 → (Nat → Nat → Int32) → (Nat → Nat → Int64) → Option (Int32 × (Nat → Nat → Int32) × (Nat → Nat → Int64))
  | 0 => fun _ _ _ _ => none
  | n + 1 => fun pc l0 I J => if pc = 0 then zb_X12_firstOf_0 N (zl_X12_firstOf N n) l0 I J else none
theorem ze_X12_firstOf_0 (N : Nat) (n : Nat) (l0 : Int32) (I : Nat → Nat → Int32) (J : Nat → Nat → Int64) : zl_X12_firstOf N (n+1) 0 l0 I J = zb_X12_firstOf_0 N (zl_X12_firstOf N n) l0 I J := by
  show (if 0 = 0 then zb_X12_firstOf_0 N (zl_X12_firstOf N n) l0 I J else none) = _
  rw [if_pos rfl]
def zf_X12_firstOf (N : Nat) (l0 : Int32) (I : Nat → Nat → Int32) (J : Nat → Nat → Int64) : Option (Int32 × (Nat → Nat → Int32) × (Nat → Nat → Int64)) := zl_X12_firstOf N N 0 l0 I J
set_option maxHeartbeats 16000000 in
theorem zq_X12_firstOf (F : zz_F) (d N : Nat) : ∀ n : Nat, (∀ (l0 : Int32) (I : Nat → Nat → Int32) (J : Nat → Nat → Int64) (r : Int32 × (Nat → Nat → Int32) × (Nat → Nat → Int64)), zl_X12_firstOf N n 0 l0 I J = some r → zz_run (d+1) 235 0 [some (.int l0)] [] (zz_S F I J) (some (.int r.1)) (zz_S F I J)) := by
  intro n
  induction n with
  | zero => exact fun _ _ _ _ h => zz_no h
  | succ n ih =>
    have ih0 := ih
    skip
    · intro l0 I J r hr
      rw [ze_X12_firstOf_0] at hr
      unfold zb_X12_firstOf_0 at hr
      refine zs_235_0 ?_
      refine And.intro (fun (h1 : ¬ l0 = 0) => ?_) (fun (h1 : ¬ (¬ l0 = 0)) => ?_)
      · rw [if_pos h1] at hr
        show zz_run _ 235 8 [some (.int l0)] [] (zz_S F I J) _ _
        refine zs_235_8 ?_
        refine And.intro (Nat.le_of_ble_eq_true rfl) (And.intro (Nat.le_of_ble_eq_true rfl) (And.intro (Nat.le_of_ble_eq_true rfl) ?_))
        obtain ⟨r1, cr1, hr⟩ := Option.bind_eq_some_iff.mp hr
        refine Exists.intro _ (Exists.intro _ (And.intro (zr_J6_numberOfTrailingZeros F I J d N l0 r1 cr1) ?_))
        show zz_run _ 235 12 [some (.int l0)] [.int r1.1] (zz_S F I J) _ _
        refine zs_235_12 ?_
        replace hr := Option.some.inj hr
        subst hr
        exact And.intro rfl (And.intro rfl rfl)
      · rw [if_neg h1] at hr
        show zz_run _ 235 12 [some (.int l0)] [.int ((-1))] (zz_S F I J) _ _
        refine zs_235_12 ?_
        replace hr := Option.some.inj hr
        subst hr
        exact And.intro rfl (And.intro rfl rfl)
theorem zr_X12_firstOf (F : zz_F) (I : Nat → Nat → Int32) (J : Nat → Nat → Int64) (d N : Nat) (l0 : Int32) (r : Int32 × (Nat → Nat → Int32) × (Nat → Nat → Int64)) (h : zf_X12_firstOf N l0 I J = some r) : zz_run (d+1) 235 0 [some (.int l0)] [] (zz_S F I J) (some (.int r.1)) (zz_S F I J) := (zq_X12_firstOf F d N N) l0 I J r h
def zb_X12_behind__53_0 (N : Nat) (rec : Nat → Int32 → (Nat → Nat → Int32) → (Nat → Nat → Int64) → zz_F → Option (Int32 × (Nat → Nat → Int32) × (Nat → Nat → Int64) × zz_F)) (l2 : Int32) (I : Nat → Nat → Int32) (J : Nat → Nat → Int64) (F : zz_F) : Option (Int32 × (Nat → Nat → Int32) × (Nat → Nat → Int64) × zz_F) := if ¬ (I 53 13) = ((-1)) then ((zf_X12_changeOf N (I 53 13) l2 I J F).bind fun r1 => some (r1.1, r1.2.1, r1.2.2.1, r1.2.2.2)) else (some (0, I, J, F))
def zl_X12_behind__53 (N : Nat) : Nat → Nat → Int32 → (Nat → Nat → Int32) → (Nat → Nat → Int64) → zz_F → Option (Int32 × (Nat → Nat → Int32) × (Nat → Nat → Int64) × zz_F)
  | 0 => fun _ _ _ _ _ => none
  | n + 1 => fun pc l2 I J F => if pc = 0 then zb_X12_behind__53_0 N (zl_X12_behind__53 N n) l2 I J F else none
theorem ze_X12_behind__53_0 (N : Nat) (n : Nat) (l2 : Int32) (I : Nat → Nat → Int32) (J : Nat → Nat → Int64) (F : zz_F) : zl_X12_behind__53 N (n+1) 0 l2 I J F = zb_X12_behind__53_0 N (zl_X12_behind__53 N n) l2 I J F := by
  show (if 0 = 0 then zb_X12_behind__53_0 N (zl_X12_behind__53 N n) l2 I J F else none) = _
  rw [if_pos rfl]
def zf_X12_behind__53 (N : Nat) (l2 : Int32) (I : Nat → Nat → Int32) (J : Nat → Nat → Int64) (F : zz_F) : Option (Int32 × (Nat → Nat → Int32) × (Nat → Nat → Int64) × zz_F) := zl_X12_behind__53 N N 0 l2 I J F
set_option maxHeartbeats 16000000 in
theorem zq_X12_behind__53 (d N : Nat) : ∀ n : Nat, (∀ (l2 : Int32) (I : Nat → Nat → Int32) (J : Nat → Nat → Int64) (F : zz_F) (r : Int32 × (Nat → Nat → Int32) × (Nat → Nat → Int64) × zz_F), zl_X12_behind__53 N n 0 l2 I J F = some r → zz_run (d+69) 242 0 [some (.ref 52), some (.ref 53), some (.int l2)] [] (zz_S F I J) (some (.int r.1)) (zz_S (r.2.2.2) (r.2.1) (r.2.2.1))) := by
  intro n
  induction n with
  | zero => exact fun _ _ _ _ _ h => zz_no h
  | succ n ih =>
    have ih0 := ih
    skip
    · intro l2 I J F r hr
      rw [ze_X12_behind__53_0] at hr
      unfold zb_X12_behind__53_0 at hr
      refine zs_242_0 ?_
      refine And.intro (Or.inl rfl) (And.intro (zz_vk (k := 13) rfl rfl) (And.intro (fun (h1 : ¬ (I 53 13) = ((-1))) => ?_) (fun (h1 : ¬ (¬ (I 53 13) = ((-1)))) => ?_)))
      · rw [if_pos h1] at hr
        show zz_run _ 242 12 [some (.ref 52), some (.ref 53), some (.int l2)] [] (zz_S F I J) _ _
        refine zs_242_12 ?_
        refine And.intro (Or.inl rfl) (And.intro (zz_vk (k := 13) rfl rfl) (And.intro (rfl) (And.intro (Nat.le_of_ble_eq_true rfl) (And.intro (Nat.le_of_ble_eq_true rfl) (And.intro (Nat.le_of_ble_eq_true rfl) ?_)))))
        obtain ⟨r1, cr1, hr⟩ := Option.bind_eq_some_iff.mp hr
        refine Exists.intro _ (Exists.intro _ (And.intro (zr_X12_changeOf d N (I 53 13) l2 I J F r1 cr1) ?_))
        show zz_run _ 242 21 [some (.ref 52), some (.ref 53), some (.int l2)] [.int r1.1] (zz_S r1.2.2.2 r1.2.1 r1.2.2.1) _ _
        refine zs_242_21 ?_
        replace hr := Option.some.inj hr
        subst hr
        exact And.intro rfl (And.intro rfl rfl)
      · rw [if_neg h1] at hr
        show zz_run _ 242 21 [some (.ref 52), some (.ref 53), some (.int l2)] [.int 0] (zz_S F I J) _ _
        refine zs_242_21 ?_
        replace hr := Option.some.inj hr
        subst hr
        exact And.intro rfl (And.intro rfl rfl)
theorem zr_X12_behind__53 (d N : Nat) (l2 : Int32) (I : Nat → Nat → Int32) (J : Nat → Nat → Int64) (F : zz_F) (r : Int32 × (Nat → Nat → Int32) × (Nat → Nat → Int64) × zz_F) (h : zf_X12_behind__53 N l2 I J F = some r) : zz_run (d+69) 242 0 [some (.ref 52), some (.ref 53), some (.int l2)] [] (zz_S F I J) (some (.int r.1)) (zz_S (r.2.2.2) (r.2.1) (r.2.2.1)) := (zq_X12_behind__53 d N N) l2 I J F r h
def zb_X12_behind__63_0 (N : Nat) (rec : Nat → Int32 → (Nat → Nat → Int32) → (Nat → Nat → Int64) → zz_F → Option (Int32 × (Nat → Nat → Int32) × (Nat → Nat → Int64) × zz_F)) (l2 : Int32) (I : Nat → Nat → Int32) (J : Nat → Nat → Int64) (F : zz_F) : Option (Int32 × (Nat → Nat → Int32) × (Nat → Nat → Int64) × zz_F) := if ¬ (I 63 13) = ((-1)) then ((zf_X12_changeOf N (I 63 13) l2 I J F).bind fun r1 => some (r1.1, r1.2.1, r1.2.2.1, r1.2.2.2)) else (some (0, I, J, F))
def zl_X12_behind__63 (N : Nat) : Nat → Nat → Int32 → (Nat → Nat → Int32) → (Nat → Nat → Int64) → zz_F → Option (Int32 × (Nat → Nat → Int32) × (Nat → Nat → Int64) × zz_F)
  | 0 => fun _ _ _ _ _ => none
  | n + 1 => fun pc l2 I J F => if pc = 0 then zb_X12_behind__63_0 N (zl_X12_behind__63 N n) l2 I J F else none
theorem ze_X12_behind__63_0 (N : Nat) (n : Nat) (l2 : Int32) (I : Nat → Nat → Int32) (J : Nat → Nat → Int64) (F : zz_F) : zl_X12_behind__63 N (n+1) 0 l2 I J F = zb_X12_behind__63_0 N (zl_X12_behind__63 N n) l2 I J F := by
  show (if 0 = 0 then zb_X12_behind__63_0 N (zl_X12_behind__63 N n) l2 I J F else none) = _
  rw [if_pos rfl]
def zf_X12_behind__63 (N : Nat) (l2 : Int32) (I : Nat → Nat → Int32) (J : Nat → Nat → Int64) (F : zz_F) : Option (Int32 × (Nat → Nat → Int32) × (Nat → Nat → Int64) × zz_F) := zl_X12_behind__63 N N 0 l2 I J F
set_option maxHeartbeats 16000000 in
theorem zq_X12_behind__63 (d N : Nat) : ∀ n : Nat, (∀ (l2 : Int32) (I : Nat → Nat → Int32) (J : Nat → Nat → Int64) (F : zz_F) (r : Int32 × (Nat → Nat → Int32) × (Nat → Nat → Int64) × zz_F), zl_X12_behind__63 N n 0 l2 I J F = some r → zz_run (d+69) 242 0 [some (.ref 52), some (.ref 63), some (.int l2)] [] (zz_S F I J) (some (.int r.1)) (zz_S (r.2.2.2) (r.2.1) (r.2.2.1))) := by
  intro n
  induction n with
  | zero => exact fun _ _ _ _ _ h => zz_no h
  | succ n ih =>
    have ih0 := ih
    skip
    · intro l2 I J F r hr
      rw [ze_X12_behind__63_0] at hr
      unfold zb_X12_behind__63_0 at hr
      refine zs_242_0 ?_
      refine And.intro (Or.inl rfl) (And.intro (zz_vk (k := 13) rfl rfl) (And.intro (fun (h1 : ¬ (I 63 13) = ((-1))) => ?_) (fun (h1 : ¬ (¬ (I 63 13) = ((-1)))) => ?_)))
      · rw [if_pos h1] at hr
        show zz_run _ 242 12 [some (.ref 52), some (.ref 63), some (.int l2)] [] (zz_S F I J) _ _
        refine zs_242_12 ?_
        refine And.intro (Or.inl rfl) (And.intro (zz_vk (k := 13) rfl rfl) (And.intro (rfl) (And.intro (Nat.le_of_ble_eq_true rfl) (And.intro (Nat.le_of_ble_eq_true rfl) (And.intro (Nat.le_of_ble_eq_true rfl) ?_)))))
        obtain ⟨r1, cr1, hr⟩ := Option.bind_eq_some_iff.mp hr
        refine Exists.intro _ (Exists.intro _ (And.intro (zr_X12_changeOf d N (I 63 13) l2 I J F r1 cr1) ?_))
        show zz_run _ 242 21 [some (.ref 52), some (.ref 63), some (.int l2)] [.int r1.1] (zz_S r1.2.2.2 r1.2.1 r1.2.2.1) _ _
        refine zs_242_21 ?_
        replace hr := Option.some.inj hr
        subst hr
        exact And.intro rfl (And.intro rfl rfl)
      · rw [if_neg h1] at hr
        show zz_run _ 242 21 [some (.ref 52), some (.ref 63), some (.int l2)] [.int 0] (zz_S F I J) _ _
        refine zs_242_21 ?_
        replace hr := Option.some.inj hr
        subst hr
        exact And.intro rfl (And.intro rfl rfl)
theorem zr_X12_behind__63 (d N : Nat) (l2 : Int32) (I : Nat → Nat → Int32) (J : Nat → Nat → Int64) (F : zz_F) (r : Int32 × (Nat → Nat → Int32) × (Nat → Nat → Int64) × zz_F) (h : zf_X12_behind__63 N l2 I J F = some r) : zz_run (d+69) 242 0 [some (.ref 52), some (.ref 63), some (.int l2)] [] (zz_S F I J) (some (.int r.1)) (zz_S (r.2.2.2) (r.2.1) (r.2.2.1)) := (zq_X12_behind__63 d N N) l2 I J F r h
def zb_X12_goPlay__53_0 (N : Nat) (rec : Nat → Int32 → (Nat → Nat → Int32) → (Nat → Nat → Int64) → zz_F → Option (Int32 × (Nat → Nat → Int32) × (Nat → Nat → Int64) × zz_F)) (l2 : Int32) (I : Nat → Nat → Int32) (J : Nat → Nat → Int64) (F : zz_F) : Option (Int32 × (Nat → Nat → Int32) × (Nat → Nat → Int64) × zz_F) := if ¬ (((7 * l2) + 0) < 0 ∨ 84 ≤ ((7 * l2) + 0).toNatClampNeg) then ((zf_X12_behind__53 N l2 I J F).bind fun r2 => if ¬ (((7 * l2) + 1) < 0 ∨ 84 ≤ ((7 * l2) + 1).toNatClampNeg) then (if ¬ ((14 + (zv_X12_playOf I l2)) < 0 ∨ 18 ≤ (14 + (zv_X12_playOf I l2)).toNatClampNeg) then (if ¬ (((7 * l2) + 5) < 0 ∨ 84 ≤ ((7 * l2) + 5).toNatClampNeg) then (if ((zv_X12_doesClash (zz_u r2.2.1 53 12 ((I 53 12) + (r2.1 + (zv_X12_field r2.2.1 l2 1)))) ((zz_u r2.2.1 53 12 ((I 53 12) + (r2.1 + (zv_X12_field r2.2.1 l2 1)))) 53 ((14 + (zv_X12_playOf I l2)).toNatClampNeg)) l2) = 0) → (¬ (((7 * l2) + 6) < 0 ∨ 84 ≤ ((7 * l2) + 6).toNatClampNeg)) then (if (¬ ((zv_X12_doesClash (zz_u r2.2.1 53 12 ((I 53 12) + (r2.1 + (zv_X12_field r2.2.1 l2 1)))) ((zz_u r2.2.1 53 12 ((I 53 12) + (r2.1 + (zv_X12_field r2.2.1 l2 1)))) 53 ((14 + (zv_X12_playOf I l2)).toNatClampNeg)) l2) = 0)) → (¬ (((7 * l2) + 6) < 0 ∨ 84 ≤ ((7 * l2) + 6).toNatClampNeg)) then (if ¬ (((7 * l2) + 4) < 0 ∨ 84 ≤ ((7 * l2) + 4).toNatClampNeg) then (if ¬ ((16 + (zv_X12_playOf I l2)) < 0 ∨ 18 ≤ (16 + (zv_X12_playOf I l2)).toNatClampNeg) then (if ¬ (l2 < 0 ∨ 18 ≤ l2.toNatClampNeg) then (some (zv_X12_brings (zz_u r2.2.1 53 12 ((I 53 12) + (r2.1 + (zv_X12_field r2.2.1 l2 1)))) ((zz_u r2.2.1 53 12 ((I 53 12) + (r2.1 + (zv_X12_field r2.2.1 l2 1)))) 53 ((14 + (zv_X12_playOf I l2)).toNatClampNeg)) l2, zz_u (zz_u (zz_u (zz_u (zz_u r2.2.1 53 12 ((I 53 12) + (r2.1 + (zv_X12_field r2.2.1 l2 1)))) 53 ((14 + (zv_X12_playOf I l2)).toNatClampNeg) (zv_X12_knownBy (zz_u r2.2.1 53 12 ((I 53 12) + (r2.1 + (zv_X12_field r2.2.1 l2 1)))) ((zz_u r2.2.1 53 12 ((I 53 12) + (r2.1 + (zv_X12_field r2.2.1 l2 1)))) 53 ((14 + (zv_X12_playOf I l2)).toNatClampNeg)) l2)) 53 ((16 + (zv_X12_playOf I l2)).toNatClampNeg) (((zz_u (zz_u r2.2.1 53 12 ((I 53 12) + (r2.1 + (zv_X12_field r2.2.1 l2 1)))) 53 ((14 + (zv_X12_playOf I l2)).toNatClampNeg) (zv_X12_knownBy (zz_u r2.2.1 53 12 ((I 53 12) + (r2.1 + (zv_X12_field r2.2.1 l2 1)))) ((zz_u r2.2.1 53 12 ((I 53 12) + (r2.1 + (zv_X12_field r2.2.1 l2 1)))) 53 ((14 + (zv_X12_playOf I l2)).toNatClampNeg)) l2)) 53 ((16 + (zv_X12_playOf I l2)).toNatClampNeg)) + (zv_X12_brings (zz_u r2.2.1 53 12 ((I 53 12) + (r2.1 + (zv_X12_field r2.2.1 l2 1)))) ((zz_u r2.2.1 53 12 ((I 53 12) + (r2.1 + (zv_X12_field r2.2.1 l2 1)))) 53 ((14 + (zv_X12_playOf I l2)).toNatClampNeg)) l2))) 53 l2.toNatClampNeg 1) 53 13 l2, r2.2.2.1, r2.2.2.2)) else none) else none) else none) else none) else none) else none) else none) else none) else none
def zl_X12_goPlay__53 (N : Nat) : Nat → Nat → Int32 → (Nat → Nat → Int32) → (Nat → Nat → Int64) → zz_F → Option (Int32 × (Nat → Nat → Int32) × (Nat → Nat → Int64) × zz_F)
  | 0 => fun _ _ _ _ _ => none
  | n + 1 => fun pc l2 I J F => if pc = 0 then zb_X12_goPlay__53_0 N (zl_X12_goPlay__53 N n) l2 I J F else none
theorem ze_X12_goPlay__53_0 (N : Nat) (n : Nat) (l2 : Int32) (I : Nat → Nat → Int32) (J : Nat → Nat → Int64) (F : zz_F) : zl_X12_goPlay__53 N (n+1) 0 l2 I J F = zb_X12_goPlay__53_0 N (zl_X12_goPlay__53 N n) l2 I J F := by
  show (if 0 = 0 then zb_X12_goPlay__53_0 N (zl_X12_goPlay__53 N n) l2 I J F else none) = _
  rw [if_pos rfl]
def zf_X12_goPlay__53 (N : Nat) (l2 : Int32) (I : Nat → Nat → Int32) (J : Nat → Nat → Int64) (F : zz_F) : Option (Int32 × (Nat → Nat → Int32) × (Nat → Nat → Int64) × zz_F) := zl_X12_goPlay__53 N N 0 l2 I J F
set_option maxHeartbeats 16000000 in
theorem zq_X12_goPlay__53 (d N : Nat) : ∀ n : Nat, (∀ (l2 : Int32) (I : Nat → Nat → Int32) (J : Nat → Nat → Int64) (F : zz_F) (r : Int32 × (Nat → Nat → Int32) × (Nat → Nat → Int64) × zz_F), zl_X12_goPlay__53 N n 0 l2 I J F = some r → zz_run (d+70) 246 0 [some (.ref 52), some (.ref 53), some (.int l2), none, none] [] (zz_S F I J) (some (.int r.1)) (zz_S (r.2.2.2) (r.2.1) (r.2.2.1))) := by
  intro n
  induction n with
  | zero => exact fun _ _ _ _ _ h => zz_no h
  | succ n ih =>
    have ih0 := ih
    skip
    · intro l2 I J F r hr
      rw [ze_X12_goPlay__53_0] at hr
      unfold zb_X12_goPlay__53_0 at hr
      refine zs_246_0 ?_
      refine And.intro (rfl) (And.intro (Nat.le_of_ble_eq_true rfl) (And.intro (Nat.le_of_ble_eq_true rfl) (And.intro (Nat.le_of_ble_eq_true rfl) ?_)))
      have g1 : ¬ (((7 * l2) + 0) < 0 ∨ 84 ≤ ((7 * l2) + 0).toNatClampNeg) := zz_g hr
      replace hr := zz_gt hr
      refine Exists.intro _ (Exists.intro _ (And.intro (zr_X12_playOf F I J (d+68) l2 g1) ?_))
      refine And.intro (rfl) (And.intro (rfl) (And.intro (Or.inl rfl) (And.intro (zz_vk (k := 12) rfl rfl) (And.intro (rfl) (And.intro (Nat.le_of_ble_eq_true rfl) ?_)))))
      refine And.intro (Nat.le_of_ble_eq_true rfl) (And.intro (Nat.le_of_ble_eq_true rfl) ?_)
      obtain ⟨r2, cr2, hr⟩ := Option.bind_eq_some_iff.mp hr
      refine Exists.intro _ (Exists.intro _ (And.intro (zr_X12_behind__53 d N l2 I J F r2 cr2) ?_))
      refine And.intro (rfl) (And.intro (Nat.le_of_ble_eq_true rfl) (And.intro (Nat.le_of_ble_eq_true rfl) (And.intro (Nat.le_of_ble_eq_true rfl) ?_)))
      have g3 : ¬ (((7 * l2) + 1) < 0 ∨ 84 ≤ ((7 * l2) + 1).toNatClampNeg) := zz_g hr
      replace hr := zz_gt hr
      refine Exists.intro _ (Exists.intro _ (And.intro (zr_X12_field r2.2.2.2 r2.2.1 r2.2.2.1 (d+69) l2 1 g3) ?_))
      refine And.intro (rfl) (And.intro (zz_vk (k := 12) rfl rfl) (And.intro (Or.inl rfl) ?_))
      have g4 : ¬ ((14 + (zv_X12_playOf I l2)) < 0 ∨ 18 ≤ (14 + (zv_X12_playOf I l2)).toNatClampNeg) := zz_g hr
      replace hr := zz_gt hr
      refine And.intro (g4) (And.intro (rfl) (And.intro (Nat.le_of_ble_eq_true rfl) (And.intro (Nat.le_of_ble_eq_true rfl) (And.intro (Nat.le_of_ble_eq_true rfl) ?_))))
      have g5 : ¬ (((7 * l2) + 5) < 0 ∨ 84 ≤ ((7 * l2) + 5).toNatClampNeg) := zz_g hr
      replace hr := zz_gt hr
      have g6 : ((zv_X12_doesClash (zz_u r2.2.1 53 12 ((I 53 12) + (r2.1 + (zv_X12_field r2.2.1 l2 1)))) ((zz_u r2.2.1 53 12 ((I 53 12) + (r2.1 + (zv_X12_field r2.2.1 l2 1)))) 53 ((14 + (zv_X12_playOf I l2)).toNatClampNeg)) l2) = 0) → (¬ (((7 * l2) + 6) < 0 ∨ 84 ≤ ((7 * l2) + 6).toNatClampNeg)) := zz_g hr
      replace hr := zz_gt hr
      have g7 : (¬ ((zv_X12_doesClash (zz_u r2.2.1 53 12 ((I 53 12) + (r2.1 + (zv_X12_field r2.2.1 l2 1)))) ((zz_u r2.2.1 53 12 ((I 53 12) + (r2.1 + (zv_X12_field r2.2.1 l2 1)))) 53 ((14 + (zv_X12_playOf I l2)).toNatClampNeg)) l2) = 0)) → (¬ (((7 * l2) + 6) < 0 ∨ 84 ≤ ((7 * l2) + 6).toNatClampNeg)) := zz_g hr
      replace hr := zz_gt hr
      refine Exists.intro _ (Exists.intro _ (And.intro (zr_X12_brings r2.2.2.2 (zz_u r2.2.1 53 12 ((I 53 12) + (r2.1 + (zv_X12_field r2.2.1 l2 1)))) r2.2.2.1 (d+67) ((zz_u r2.2.1 53 12 ((I 53 12) + (r2.1 + (zv_X12_field r2.2.1 l2 1)))) 53 ((14 + (zv_X12_playOf I l2)).toNatClampNeg)) l2 g5 g6 g7) ?_))
      refine And.intro (Or.inl rfl) (And.intro (g4) (And.intro (rfl) (And.intro (Nat.le_of_ble_eq_true rfl) (And.intro (Nat.le_of_ble_eq_true rfl) (And.intro (Nat.le_of_ble_eq_true rfl) ?_)))))
      have g8 : ¬ (((7 * l2) + 4) < 0 ∨ 84 ≤ ((7 * l2) + 4).toNatClampNeg) := zz_g hr
      replace hr := zz_gt hr
      refine Exists.intro _ (Exists.intro _ (And.intro (zr_X12_knownBy r2.2.2.2 (zz_u r2.2.1 53 12 ((I 53 12) + (r2.1 + (zv_X12_field r2.2.1 l2 1)))) r2.2.2.1 (d+68) ((zz_u r2.2.1 53 12 ((I 53 12) + (r2.1 + (zv_X12_field r2.2.1 l2 1)))) 53 ((14 + (zv_X12_playOf I l2)).toNatClampNeg)) l2 g8) ?_))
      refine And.intro (rfl) (And.intro (g4) (And.intro (rfl) (And.intro (rfl) (And.intro (Or.inl rfl) ?_))))
      have g9 : ¬ ((16 + (zv_X12_playOf I l2)) < 0 ∨ 18 ≤ (16 + (zv_X12_playOf I l2)).toNatClampNeg) := zz_g hr
      replace hr := zz_gt hr
      refine And.intro (g9) (And.intro (rfl) (And.intro (g9) (And.intro (rfl) ?_)))
      have g10 : ¬ (l2 < 0 ∨ 18 ≤ l2.toNatClampNeg) := zz_g hr
      replace hr := zz_gt hr
      refine And.intro (g10) (And.intro (rfl) (And.intro (zz_vk (k := 13) rfl rfl) ?_))
      replace hr := Option.some.inj hr
      subst hr
      exact And.intro rfl (And.intro rfl rfl)
theorem zr_X12_goPlay__53 (d N : Nat) (l2 : Int32) (I : Nat → Nat → Int32) (J : Nat → Nat → Int64) (F : zz_F) (r : Int32 × (Nat → Nat → Int32) × (Nat → Nat → Int64) × zz_F) (h : zf_X12_goPlay__53 N l2 I J F = some r) : zz_run (d+70) 246 0 [some (.ref 52), some (.ref 53), some (.int l2), none, none] [] (zz_S F I J) (some (.int r.1)) (zz_S (r.2.2.2) (r.2.1) (r.2.2.1)) := (zq_X12_goPlay__53 d N N) l2 I J F r h
def zb_X12_goPlay__63_0 (N : Nat) (rec : Nat → Int32 → (Nat → Nat → Int32) → (Nat → Nat → Int64) → zz_F → Option (Int32 × (Nat → Nat → Int32) × (Nat → Nat → Int64) × zz_F)) (l2 : Int32) (I : Nat → Nat → Int32) (J : Nat → Nat → Int64) (F : zz_F) : Option (Int32 × (Nat → Nat → Int32) × (Nat → Nat → Int64) × zz_F) := if ¬ (((7 * l2) + 0) < 0 ∨ 84 ≤ ((7 * l2) + 0).toNatClampNeg) then ((zf_X12_behind__63 N l2 I J F).bind fun r2 => if ¬ (((7 * l2) + 1) < 0 ∨ 84 ≤ ((7 * l2) + 1).toNatClampNeg) then (if ¬ ((14 + (zv_X12_playOf I l2)) < 0 ∨ 18 ≤ (14 + (zv_X12_playOf I l2)).toNatClampNeg) then (if ¬ (((7 * l2) + 5) < 0 ∨ 84 ≤ ((7 * l2) + 5).toNatClampNeg) then (if ((zv_X12_doesClash (zz_u r2.2.1 63 12 ((I 63 12) + (r2.1 + (zv_X12_field r2.2.1 l2 1)))) ((zz_u r2.2.1 63 12 ((I 63 12) + (r2.1 + (zv_X12_field r2.2.1 l2 1)))) 63 ((14 + (zv_X12_playOf I l2)).toNatClampNeg)) l2) = 0) → (¬ (((7 * l2) + 6) < 0 ∨ 84 ≤ ((7 * l2) + 6).toNatClampNeg)) then (if (¬ ((zv_X12_doesClash (zz_u r2.2.1 63 12 ((I 63 12) + (r2.1 + (zv_X12_field r2.2.1 l2 1)))) ((zz_u r2.2.1 63 12 ((I 63 12) + (r2.1 + (zv_X12_field r2.2.1 l2 1)))) 63 ((14 + (zv_X12_playOf I l2)).toNatClampNeg)) l2) = 0)) → (¬ (((7 * l2) + 6) < 0 ∨ 84 ≤ ((7 * l2) + 6).toNatClampNeg)) then (if ¬ (((7 * l2) + 4) < 0 ∨ 84 ≤ ((7 * l2) + 4).toNatClampNeg) then (if ¬ ((16 + (zv_X12_playOf I l2)) < 0 ∨ 18 ≤ (16 + (zv_X12_playOf I l2)).toNatClampNeg) then (if ¬ (l2 < 0 ∨ 18 ≤ l2.toNatClampNeg) then (some (zv_X12_brings (zz_u r2.2.1 63 12 ((I 63 12) + (r2.1 + (zv_X12_field r2.2.1 l2 1)))) ((zz_u r2.2.1 63 12 ((I 63 12) + (r2.1 + (zv_X12_field r2.2.1 l2 1)))) 63 ((14 + (zv_X12_playOf I l2)).toNatClampNeg)) l2, zz_u (zz_u (zz_u (zz_u (zz_u r2.2.1 63 12 ((I 63 12) + (r2.1 + (zv_X12_field r2.2.1 l2 1)))) 63 ((14 + (zv_X12_playOf I l2)).toNatClampNeg) (zv_X12_knownBy (zz_u r2.2.1 63 12 ((I 63 12) + (r2.1 + (zv_X12_field r2.2.1 l2 1)))) ((zz_u r2.2.1 63 12 ((I 63 12) + (r2.1 + (zv_X12_field r2.2.1 l2 1)))) 63 ((14 + (zv_X12_playOf I l2)).toNatClampNeg)) l2)) 63 ((16 + (zv_X12_playOf I l2)).toNatClampNeg) (((zz_u (zz_u r2.2.1 63 12 ((I 63 12) + (r2.1 + (zv_X12_field r2.2.1 l2 1)))) 63 ((14 + (zv_X12_playOf I l2)).toNatClampNeg) (zv_X12_knownBy (zz_u r2.2.1 63 12 ((I 63 12) + (r2.1 + (zv_X12_field r2.2.1 l2 1)))) ((zz_u r2.2.1 63 12 ((I 63 12) + (r2.1 + (zv_X12_field r2.2.1 l2 1)))) 63 ((14 + (zv_X12_playOf I l2)).toNatClampNeg)) l2)) 63 ((16 + (zv_X12_playOf I l2)).toNatClampNeg)) + (zv_X12_brings (zz_u r2.2.1 63 12 ((I 63 12) + (r2.1 + (zv_X12_field r2.2.1 l2 1)))) ((zz_u r2.2.1 63 12 ((I 63 12) + (r2.1 + (zv_X12_field r2.2.1 l2 1)))) 63 ((14 + (zv_X12_playOf I l2)).toNatClampNeg)) l2))) 63 l2.toNatClampNeg 1) 63 13 l2, r2.2.2.1, r2.2.2.2)) else none) else none) else none) else none) else none) else none) else none) else none) else none
def zl_X12_goPlay__63 (N : Nat) : Nat → Nat → Int32 → (Nat → Nat → Int32) → (Nat → Nat → Int64) → zz_F → Option (Int32 × (Nat → Nat → Int32) × (Nat → Nat → Int64) × zz_F)
  | 0 => fun _ _ _ _ _ => none
  | n + 1 => fun pc l2 I J F => if pc = 0 then zb_X12_goPlay__63_0 N (zl_X12_goPlay__63 N n) l2 I J F else none
theorem ze_X12_goPlay__63_0 (N : Nat) (n : Nat) (l2 : Int32) (I : Nat → Nat → Int32) (J : Nat → Nat → Int64) (F : zz_F) : zl_X12_goPlay__63 N (n+1) 0 l2 I J F = zb_X12_goPlay__63_0 N (zl_X12_goPlay__63 N n) l2 I J F := by
  show (if 0 = 0 then zb_X12_goPlay__63_0 N (zl_X12_goPlay__63 N n) l2 I J F else none) = _
  rw [if_pos rfl]
def zf_X12_goPlay__63 (N : Nat) (l2 : Int32) (I : Nat → Nat → Int32) (J : Nat → Nat → Int64) (F : zz_F) : Option (Int32 × (Nat → Nat → Int32) × (Nat → Nat → Int64) × zz_F) := zl_X12_goPlay__63 N N 0 l2 I J F
set_option maxHeartbeats 16000000 in
theorem zq_X12_goPlay__63 (d N : Nat) : ∀ n : Nat, (∀ (l2 : Int32) (I : Nat → Nat → Int32) (J : Nat → Nat → Int64) (F : zz_F) (r : Int32 × (Nat → Nat → Int32) × (Nat → Nat → Int64) × zz_F), zl_X12_goPlay__63 N n 0 l2 I J F = some r → zz_run (d+70) 246 0 [some (.ref 52), some (.ref 63), some (.int l2), none, none] [] (zz_S F I J) (some (.int r.1)) (zz_S (r.2.2.2) (r.2.1) (r.2.2.1))) := by
  intro n
  induction n with
  | zero => exact fun _ _ _ _ _ h => zz_no h
  | succ n ih =>
    have ih0 := ih
    skip
    · intro l2 I J F r hr
      rw [ze_X12_goPlay__63_0] at hr
      unfold zb_X12_goPlay__63_0 at hr
      refine zs_246_0 ?_
      refine And.intro (rfl) (And.intro (Nat.le_of_ble_eq_true rfl) (And.intro (Nat.le_of_ble_eq_true rfl) (And.intro (Nat.le_of_ble_eq_true rfl) ?_)))
      have g1 : ¬ (((7 * l2) + 0) < 0 ∨ 84 ≤ ((7 * l2) + 0).toNatClampNeg) := zz_g hr
      replace hr := zz_gt hr
      refine Exists.intro _ (Exists.intro _ (And.intro (zr_X12_playOf F I J (d+68) l2 g1) ?_))
      refine And.intro (rfl) (And.intro (rfl) (And.intro (Or.inl rfl) (And.intro (zz_vk (k := 12) rfl rfl) (And.intro (rfl) (And.intro (Nat.le_of_ble_eq_true rfl) ?_)))))
      refine And.intro (Nat.le_of_ble_eq_true rfl) (And.intro (Nat.le_of_ble_eq_true rfl) ?_)
      obtain ⟨r2, cr2, hr⟩ := Option.bind_eq_some_iff.mp hr
      refine Exists.intro _ (Exists.intro _ (And.intro (zr_X12_behind__63 d N l2 I J F r2 cr2) ?_))
      refine And.intro (rfl) (And.intro (Nat.le_of_ble_eq_true rfl) (And.intro (Nat.le_of_ble_eq_true rfl) (And.intro (Nat.le_of_ble_eq_true rfl) ?_)))
      have g3 : ¬ (((7 * l2) + 1) < 0 ∨ 84 ≤ ((7 * l2) + 1).toNatClampNeg) := zz_g hr
      replace hr := zz_gt hr
      refine Exists.intro _ (Exists.intro _ (And.intro (zr_X12_field r2.2.2.2 r2.2.1 r2.2.2.1 (d+69) l2 1 g3) ?_))
      refine And.intro (rfl) (And.intro (zz_vk (k := 12) rfl rfl) (And.intro (Or.inl rfl) ?_))
      have g4 : ¬ ((14 + (zv_X12_playOf I l2)) < 0 ∨ 18 ≤ (14 + (zv_X12_playOf I l2)).toNatClampNeg) := zz_g hr
      replace hr := zz_gt hr
      refine And.intro (g4) (And.intro (rfl) (And.intro (Nat.le_of_ble_eq_true rfl) (And.intro (Nat.le_of_ble_eq_true rfl) (And.intro (Nat.le_of_ble_eq_true rfl) ?_))))
      have g5 : ¬ (((7 * l2) + 5) < 0 ∨ 84 ≤ ((7 * l2) + 5).toNatClampNeg) := zz_g hr
      replace hr := zz_gt hr
      have g6 : ((zv_X12_doesClash (zz_u r2.2.1 63 12 ((I 63 12) + (r2.1 + (zv_X12_field r2.2.1 l2 1)))) ((zz_u r2.2.1 63 12 ((I 63 12) + (r2.1 + (zv_X12_field r2.2.1 l2 1)))) 63 ((14 + (zv_X12_playOf I l2)).toNatClampNeg)) l2) = 0) → (¬ (((7 * l2) + 6) < 0 ∨ 84 ≤ ((7 * l2) + 6).toNatClampNeg)) := zz_g hr
      replace hr := zz_gt hr
      have g7 : (¬ ((zv_X12_doesClash (zz_u r2.2.1 63 12 ((I 63 12) + (r2.1 + (zv_X12_field r2.2.1 l2 1)))) ((zz_u r2.2.1 63 12 ((I 63 12) + (r2.1 + (zv_X12_field r2.2.1 l2 1)))) 63 ((14 + (zv_X12_playOf I l2)).toNatClampNeg)) l2) = 0)) → (¬ (((7 * l2) + 6) < 0 ∨ 84 ≤ ((7 * l2) + 6).toNatClampNeg)) := zz_g hr
      replace hr := zz_gt hr
      refine Exists.intro _ (Exists.intro _ (And.intro (zr_X12_brings r2.2.2.2 (zz_u r2.2.1 63 12 ((I 63 12) + (r2.1 + (zv_X12_field r2.2.1 l2 1)))) r2.2.2.1 (d+67) ((zz_u r2.2.1 63 12 ((I 63 12) + (r2.1 + (zv_X12_field r2.2.1 l2 1)))) 63 ((14 + (zv_X12_playOf I l2)).toNatClampNeg)) l2 g5 g6 g7) ?_))
      refine And.intro (Or.inl rfl) (And.intro (g4) (And.intro (rfl) (And.intro (Nat.le_of_ble_eq_true rfl) (And.intro (Nat.le_of_ble_eq_true rfl) (And.intro (Nat.le_of_ble_eq_true rfl) ?_)))))
      have g8 : ¬ (((7 * l2) + 4) < 0 ∨ 84 ≤ ((7 * l2) + 4).toNatClampNeg) := zz_g hr
      replace hr := zz_gt hr
      refine Exists.intro _ (Exists.intro _ (And.intro (zr_X12_knownBy r2.2.2.2 (zz_u r2.2.1 63 12 ((I 63 12) + (r2.1 + (zv_X12_field r2.2.1 l2 1)))) r2.2.2.1 (d+68) ((zz_u r2.2.1 63 12 ((I 63 12) + (r2.1 + (zv_X12_field r2.2.1 l2 1)))) 63 ((14 + (zv_X12_playOf I l2)).toNatClampNeg)) l2 g8) ?_))
      refine And.intro (rfl) (And.intro (g4) (And.intro (rfl) (And.intro (rfl) (And.intro (Or.inl rfl) ?_))))
      have g9 : ¬ ((16 + (zv_X12_playOf I l2)) < 0 ∨ 18 ≤ (16 + (zv_X12_playOf I l2)).toNatClampNeg) := zz_g hr
      replace hr := zz_gt hr
      refine And.intro (g9) (And.intro (rfl) (And.intro (g9) (And.intro (rfl) ?_)))
      have g10 : ¬ (l2 < 0 ∨ 18 ≤ l2.toNatClampNeg) := zz_g hr
      replace hr := zz_gt hr
      refine And.intro (g10) (And.intro (rfl) (And.intro (zz_vk (k := 13) rfl rfl) ?_))
      replace hr := Option.some.inj hr
      subst hr
      exact And.intro rfl (And.intro rfl rfl)
theorem zr_X12_goPlay__63 (d N : Nat) (l2 : Int32) (I : Nat → Nat → Int32) (J : Nat → Nat → Int64) (F : zz_F) (r : Int32 × (Nat → Nat → Int32) × (Nat → Nat → Int64) × zz_F) (h : zf_X12_goPlay__63 N l2 I J F = some r) : zz_run (d+70) 246 0 [some (.ref 52), some (.ref 63), some (.int l2), none, none] [] (zz_S F I J) (some (.int r.1)) (zz_S (r.2.2.2) (r.2.1) (r.2.2.1)) := (zq_X12_goPlay__63 d N N) l2 I J F r h
def zb_X12_plays_0 (N : Nat) (rec : Nat → Int32 → (Nat → Nat → Int32) → (Nat → Nat → Int64) → zz_F → Option (Int32 × (Nat → Nat → Int32) × (Nat → Nat → Int64) × zz_F)) (l1 : Int32) (I : Nat → Nat → Int32) (J : Nat → Nat → Int64) (F : zz_F) : Option (Int32 × (Nat → Nat → Int32) × (Nat → Nat → Int64) × zz_F) := if ¬ (zv_X12_isPlay l1) = 0 then ((zf_X12_nextOf__53 N l1 (zz_u I 52 7 0) J).bind fun r1 => if ¬ r1.1 = ((-1)) then ((zf_X12_remember__53 N  (zz_u I 52 7 0) J).bind fun r2 => (zf_X12_behind__53 N r1.1 r2.2.1 J F).bind fun r3 => (zf_X12_goPlay__53 N r1.1 r3.2.1 r3.2.2.1 r3.2.2.2).bind fun r4 => if ¬ (((zz_u r4.2.1 52 6 0) 52 6) < 0 ∨ 20 ≤ ((zz_u r4.2.1 52 6 0) 52 6).toNatClampNeg) then (if ¬ (((zw_X12_tell (zz_u r4.2.1 52 6 0) r4.2.2.1 r1.1.toInt64) 52 6) < 0 ∨ 20 ≤ ((zw_X12_tell (zz_u r4.2.1 52 6 0) r4.2.2.1 r1.1.toInt64) 52 6).toNatClampNeg) then ((some (zw_X12_tell (zw_X12_tell (zz_u r4.2.1 52 6 0) r4.2.2.1 r1.1.toInt64) (zx_X12_tell (zz_u r4.2.1 52 6 0) r4.2.2.1 r1.1.toInt64) r3.1.toInt64)).bind fun i7 => if ¬ ((i7 52 6) < 0 ∨ 20 ≤ (i7 52 6).toNatClampNeg) then ((some (zw_X12_tell i7 (zx_X12_tell (zw_X12_tell (zz_u r4.2.1 52 6 0) r4.2.2.1 r1.1.toInt64) (zx_X12_tell (zz_u r4.2.1 52 6 0) r4.2.2.1 r1.1.toInt64) r3.1.toInt64) r4.1.toInt64)).bind fun i9 => some (i9 53 12, i9, zx_X12_tell i7 (zx_X12_tell (zw_X12_tell (zz_u r4.2.1 52 6 0) r4.2.2.1 r1.1.toInt64) (zx_X12_tell (zz_u r4.2.1 52 6 0) r4.2.2.1 r1.1.toInt64) r3.1.toInt64) r4.1.toInt64, r4.2.2.2)) else none) else none) else none) else (some ((-2), zz_u I 52 7 0, J, F))) else (some ((-1), zz_u I 52 7 0, J, F))
def zl_X12_plays (N : Nat) : Nat → Nat → Int32 → (Nat → Nat → Int32) → (Nat → Nat → Int64) → zz_F → Option (Int32 × (Nat → Nat → Int32) × (Nat → Nat → Int64) × zz_F)
  | 0 => fun _ _ _ _ _ => none
  | n + 1 => fun pc l1 I J F => if pc = 0 then zb_X12_plays_0 N (zl_X12_plays N n) l1 I J F else none
theorem ze_X12_plays_0 (N : Nat) (n : Nat) (l1 : Int32) (I : Nat → Nat → Int32) (J : Nat → Nat → Int64) (F : zz_F) : zl_X12_plays N (n+1) 0 l1 I J F = zb_X12_plays_0 N (zl_X12_plays N n) l1 I J F := by
  show (if 0 = 0 then zb_X12_plays_0 N (zl_X12_plays N n) l1 I J F else none) = _
  rw [if_pos rfl]
def zf_X12_plays (N : Nat) (l1 : Int32) (I : Nat → Nat → Int32) (J : Nat → Nat → Int64) (F : zz_F) : Option (Int32 × (Nat → Nat → Int32) × (Nat → Nat → Int64) × zz_F) := zl_X12_plays N N 0 l1 I J F
set_option maxHeartbeats 16000000 in
theorem zq_X12_plays (d N : Nat) : ∀ n : Nat, (∀ (l1 : Int32) (I : Nat → Nat → Int32) (J : Nat → Nat → Int64) (F : zz_F) (r : Int32 × (Nat → Nat → Int32) × (Nat → Nat → Int64) × zz_F), zl_X12_plays N n 0 l1 I J F = some r → zz_run (d+71) 247 0 [some (.ref 52), some (.int l1), none, none, none] [] (zz_S F I J) (some (.int r.1)) (zz_S (r.2.2.2) (r.2.1) (r.2.2.1))) := by
  intro n
  induction n with
  | zero => exact fun _ _ _ _ _ h => zz_no h
  | succ n ih =>
    have ih0 := ih
    skip
    · intro l1 I J F r hr
      rw [ze_X12_plays_0] at hr
      unfold zb_X12_plays_0 at hr
      refine zs_247_0 ?_
      refine And.intro (rfl) (And.intro (rfl) (And.intro (And.intro rfl rfl) (And.intro (Nat.le_of_ble_eq_true rfl) (And.intro (Nat.le_of_ble_eq_true rfl) (And.intro (Nat.le_of_ble_eq_true rfl) ?_)))))
      refine Exists.intro _ (Exists.intro _ (And.intro (zr_X12_isPlay F (zz_u I 52 7 0) J (d+69) l1) ?_))
      refine And.intro (fun (h1 : ¬ (zv_X12_isPlay l1) = 0) => ?_) (fun (h1 : ¬ (¬ (zv_X12_isPlay l1) = 0)) => ?_)
      · rw [if_pos h1] at hr
        show zz_run _ 247 14 [some (.ref 52), some (.int l1), none, none, none] [] (zz_S F (zz_u I 52 7 0) J) _ _
        refine zs_247_14 ?_
        refine And.intro (rfl) (And.intro (rfl) (And.intro (Nat.le_of_ble_eq_true rfl) (And.intro (Nat.le_of_ble_eq_true rfl) (And.intro (Nat.le_of_ble_eq_true rfl) ?_))))
        obtain ⟨r1, cr1, hr⟩ := Option.bind_eq_some_iff.mp hr
        refine Exists.intro _ (Exists.intro _ (And.intro (zr_X12_nextOf__53 F (zz_u I 52 7 0) J (d+68) N l1 r1 cr1) ?_))
        refine And.intro (fun (h2 : ¬ r1.1 = ((-1))) => ?_) (fun (h2 : ¬ (¬ r1.1 = ((-1)))) => ?_)
        · rw [if_pos h2] at hr
          show zz_run _ 247 32 [some (.ref 52), some (.int l1), some (.int r1.1), none, none] [] (zz_S F (zz_u I 52 7 0) J) _ _
          refine zs_247_32 ?_
          refine And.intro (rfl) (And.intro (rfl) (And.intro (Nat.le_of_ble_eq_true rfl) (And.intro (Nat.le_of_ble_eq_true rfl) (And.intro (Nat.le_of_ble_eq_true rfl) ?_))))
          obtain ⟨r2, cr2, hr⟩ := Option.bind_eq_some_iff.mp hr
          refine Exists.intro _ (Exists.intro _ (And.intro (zr_X12_remember__53 F (zz_u I 52 7 0) J (d+69) N  r2 cr2) ?_))
          refine And.intro (rfl) (And.intro (rfl) (And.intro (Nat.le_of_ble_eq_true rfl) (And.intro (Nat.le_of_ble_eq_true rfl) (And.intro (Nat.le_of_ble_eq_true rfl) ?_))))
          obtain ⟨r3, cr3, hr⟩ := Option.bind_eq_some_iff.mp hr
          refine Exists.intro _ (Exists.intro _ (And.intro (zr_X12_behind__53 (d+1) N r1.1 r2.2.1 J F r3 cr3) ?_))
          refine And.intro (rfl) (And.intro (rfl) (And.intro (Nat.le_of_ble_eq_true rfl) (And.intro (Nat.le_of_ble_eq_true rfl) (And.intro (Nat.le_of_ble_eq_true rfl) ?_))))
          obtain ⟨r4, cr4, hr⟩ := Option.bind_eq_some_iff.mp hr
          refine Exists.intro _ (Exists.intro _ (And.intro (zr_X12_goPlay__53 d N r1.1 r3.2.1 r3.2.2.1 r3.2.2.2 r4 cr4) ?_))
          refine And.intro (rfl) (And.intro (rfl) (And.intro (And.intro rfl rfl) (And.intro (rfl) (And.intro (Nat.le_of_ble_eq_true rfl) (And.intro (Nat.le_of_ble_eq_true rfl) ?_)))))
          refine And.intro (Nat.le_of_ble_eq_true rfl) ?_
          have g5 : ¬ (((zz_u r4.2.1 52 6 0) 52 6) < 0 ∨ 20 ≤ ((zz_u r4.2.1 52 6 0) 52 6).toNatClampNeg) := zz_g hr
          replace hr := zz_gt hr
          refine Exists.intro _ (Exists.intro _ (And.intro (zr_X12_tell r4.2.2.2 (zz_u r4.2.1 52 6 0) r4.2.2.1 (d+70) r1.1.toInt64 g5) ?_))
          refine And.intro (rfl) (And.intro (Nat.le_of_ble_eq_true rfl) (And.intro (Nat.le_of_ble_eq_true rfl) (And.intro (Nat.le_of_ble_eq_true rfl) ?_)))
          have g6 : ¬ (((zw_X12_tell (zz_u r4.2.1 52 6 0) r4.2.2.1 r1.1.toInt64) 52 6) < 0 ∨ 20 ≤ ((zw_X12_tell (zz_u r4.2.1 52 6 0) r4.2.2.1 r1.1.toInt64) 52 6).toNatClampNeg) := zz_g hr
          replace hr := zz_gt hr
          obtain ⟨i7, ci7, hr⟩ := Option.bind_eq_some_iff.mp hr
          refine Exists.intro _ (Exists.intro _ (And.intro (zz_bi ci7 (zr_X12_tell r4.2.2.2 (zw_X12_tell (zz_u r4.2.1 52 6 0) r4.2.2.1 r1.1.toInt64) (zx_X12_tell (zz_u r4.2.1 52 6 0) r4.2.2.1 r1.1.toInt64) (d+70) r3.1.toInt64 g6)) ?_))
          refine And.intro (rfl) (And.intro (Nat.le_of_ble_eq_true rfl) (And.intro (Nat.le_of_ble_eq_true rfl) (And.intro (Nat.le_of_ble_eq_true rfl) ?_)))
          have g8 : ¬ ((i7 52 6) < 0 ∨ 20 ≤ (i7 52 6).toNatClampNeg) := zz_g hr
          replace hr := zz_gt hr
          obtain ⟨i9, ci9, hr⟩ := Option.bind_eq_some_iff.mp hr
          refine Exists.intro _ (Exists.intro _ (And.intro (zz_bi ci9 (zr_X12_tell r4.2.2.2 i7 (zx_X12_tell (zw_X12_tell (zz_u r4.2.1 52 6 0) r4.2.2.1 r1.1.toInt64) (zx_X12_tell (zz_u r4.2.1 52 6 0) r4.2.2.1 r1.1.toInt64) r3.1.toInt64) (d+70) r4.1.toInt64 g8)) ?_))
          refine And.intro (rfl) (And.intro (Or.inl rfl) (And.intro (zz_vk (k := 12) rfl rfl) ?_))
          replace hr := Option.some.inj hr
          subst hr
          exact And.intro rfl (And.intro rfl rfl)
        · rw [if_neg h2] at hr
          replace hr := Option.some.inj hr
          subst hr
          exact And.intro rfl (And.intro rfl rfl)
      · rw [if_neg h1] at hr
        replace hr := Option.some.inj hr
        subst hr
        exact And.intro rfl (And.intro rfl rfl)
theorem zr_X12_plays (d N : Nat) (l1 : Int32) (I : Nat → Nat → Int32) (J : Nat → Nat → Int64) (F : zz_F) (r : Int32 × (Nat → Nat → Int32) × (Nat → Nat → Int64) × zz_F) (h : zf_X12_plays N l1 I J F = some r) : zz_run (d+71) 247 0 [some (.ref 52), some (.int l1), none, none, none] [] (zz_S F I J) (some (.int r.1)) (zz_S (r.2.2.2) (r.2.1) (r.2.2.1)) := (zq_X12_plays d N N) l1 I J F r h
def zb_X12_act_0 (N : Nat) (rec : Nat → Int32 → Int32 → (Nat → Nat → Int32) → (Nat → Nat → Int64) → zz_F → Option (Int32 × (Nat → Nat → Int32) × (Nat → Nat → Int64) × zz_F)) (l1 : Int32) (l2 : Int32) (I : Nat → Nat → Int32) (J : Nat → Nat → Int64) (F : zz_F) : Option (Int32 × (Nat → Nat → Int32) × (Nat → Nat → Int64) × zz_F) := if l1 = 119 then (some (1, zz_u I 53 12 ((I 53 12) + l2), J, F)) else (if l1 = 120 then (if (zv_X12_isScene I l2) = 0 then (rec 45 0 0 I J F) else (if ¬ (l2 < 0 ∨ 18 ≤ l2.toNatClampNeg) then (if (I 53 l2.toNatClampNeg) = 0 then (some (1, zz_u I 53 l2.toNatClampNeg 2, J, F)) else (rec 45 0 0 I J F)) else none)) else ((zf_X12_nextOf__53 N (l1 - 48) I J).bind fun r2 => if ¬ r2.1 = ((-1)) then ((zf_X12_goPlay__53 N r2.1 I J F).bind fun r3 => some (1, r3.2.1, r3.2.2.1, r3.2.2.2)) else (some (0, I, J, F))))
def zb_X12_act_45 (N : Nat) (rec : Nat → Int32 → Int32 → (Nat → Nat → Int32) → (Nat → Nat → Int64) → zz_F → Option (Int32 × (Nat → Nat → Int32) × (Nat → Nat → Int64) × zz_F)) (l1 : Int32) (l2 : Int32) (I : Nat → Nat → Int32) (J : Nat → Nat → Int64) (F : zz_F) : Option (Int32 × (Nat → Nat → Int32) × (Nat → Nat → Int64) × zz_F) := some (0, I, J, F)
def zl_X12_act (N : Nat) : Nat → Nat → Int32 → Int32 → (Nat → Nat → Int32) → (Nat → Nat → Int64) → zz_F → Option (Int32 × (Nat → Nat → Int32) × (Nat → Nat → Int64) × zz_F)
  | 0 => fun _ _ _ _ _ _ => none
  | n + 1 => fun pc l1 l2 I J F => if pc = 0 then zb_X12_act_0 N (zl_X12_act N n) l1 l2 I J F else (if pc = 45 then zb_X12_act_45 N (zl_X12_act N n) l1 l2 I J F else none)
theorem ze_X12_act_0 (N : Nat) (n : Nat) (l1 : Int32) (l2 : Int32) (I : Nat → Nat → Int32) (J : Nat → Nat → Int64) (F : zz_F) : zl_X12_act N (n+1) 0 l1 l2 I J F = zb_X12_act_0 N (zl_X12_act N n) l1 l2 I J F := by
  show (if 0 = 0 then zb_X12_act_0 N (zl_X12_act N n) l1 l2 I J F else (if 0 = 45 then zb_X12_act_45 N (zl_X12_act N n) l1 l2 I J F else none)) = _
  rw [if_pos rfl]
theorem ze_X12_act_45 (N : Nat) (n : Nat) (l1 : Int32) (l2 : Int32) (I : Nat → Nat → Int32) (J : Nat → Nat → Int64) (F : zz_F) : zl_X12_act N (n+1) 45 l1 l2 I J F = zb_X12_act_45 N (zl_X12_act N n) l1 l2 I J F := by
  show (if 45 = 0 then zb_X12_act_0 N (zl_X12_act N n) l1 l2 I J F else (if 45 = 45 then zb_X12_act_45 N (zl_X12_act N n) l1 l2 I J F else none)) = _
  rw [if_neg (by decide), if_pos rfl]
def zf_X12_act (N : Nat) (l1 : Int32) (l2 : Int32) (I : Nat → Nat → Int32) (J : Nat → Nat → Int64) (F : zz_F) : Option (Int32 × (Nat → Nat → Int32) × (Nat → Nat → Int64) × zz_F) := zl_X12_act N N 0 l1 l2 I J F
set_option maxHeartbeats 16000000 in
theorem zq_X12_act (d N : Nat) : ∀ n : Nat, (∀ (l1 : Int32) (l2 : Int32) (I : Nat → Nat → Int32) (J : Nat → Nat → Int64) (F : zz_F) (r : Int32 × (Nat → Nat → Int32) × (Nat → Nat → Int64) × zz_F), zl_X12_act N n 0 l1 l2 I J F = some r → zz_run (d+71) 254 0 [some (.ref 52), some (.int l1), some (.int l2), none] [] (zz_S F I J) (some (.int r.1)) (zz_S (r.2.2.2) (r.2.1) (r.2.2.1))) ∧ (∀ (l1 : Int32) (l2 : Int32) (I : Nat → Nat → Int32) (J : Nat → Nat → Int64) (F : zz_F) (r : Int32 × (Nat → Nat → Int32) × (Nat → Nat → Int64) × zz_F), zl_X12_act N n 45 l1 l2 I J F = some r → zz_run (d+71) 254 45 [some (.ref 52), none, none, none] [] (zz_S F I J) (some (.int r.1)) (zz_S (r.2.2.2) (r.2.1) (r.2.2.1))) := by
  intro n
  induction n with
  | zero => exact ⟨fun _ _ _ _ _ _ h => zz_no h, fun _ _ _ _ _ _ h => zz_no h⟩
  | succ n ih =>
    obtain ⟨ih0, ih45⟩ := ih
    refine ⟨?_, ?_⟩
    · intro l1 l2 I J F r hr
      rw [ze_X12_act_0] at hr
      unfold zb_X12_act_0 at hr
      refine zs_254_0 ?_
      by_cases s1_0 : l1 = 119
      · rw [if_pos s1_0] at hr
        refine zz_sw (t' := 56) (show zz_t 1 (Op.lookupswitch.offset [(119, 55), (120, 27)] 68 l1.toInt) = 56 from by rw [s1_0]; rfl) ?_
        show zz_run _ 254 56 [some (.ref 52), some (.int l1), some (.int l2), none] [] (zz_S F I J) _ _
        refine zs_254_56 ?_
        refine And.intro (rfl) (And.intro (rfl) (And.intro (rfl) (And.intro (Or.inl rfl) (And.intro (zz_vk (k := 12) rfl rfl) (And.intro (rfl) ?_)))))
        refine And.intro (zz_vk (k := 12) rfl rfl) ?_
        replace hr := Option.some.inj hr
        subst hr
        exact And.intro rfl (And.intro rfl rfl)
      · rw [if_neg s1_0] at hr
        by_cases s1_1 : l1 = 120
        · rw [if_pos s1_1] at hr
          refine zz_sw (t' := 28) (show zz_t 1 (Op.lookupswitch.offset [(119, 55), (120, 27)] 68 l1.toInt) = 28 from by rw [s1_1]; rfl) ?_
          show zz_run _ 254 28 [some (.ref 52), some (.int l1), some (.int l2), none] [] (zz_S F I J) _ _
          refine zs_254_28 ?_
          refine And.intro (rfl) (And.intro (Nat.le_of_ble_eq_true rfl) (And.intro (Nat.le_of_ble_eq_true rfl) (And.intro (Nat.le_of_ble_eq_true rfl) ?_)))
          refine Exists.intro _ (Exists.intro _ (And.intro (zr_X12_isScene F I J (d+69) l2) ?_))
          refine And.intro (fun (h2 : (zv_X12_isScene I l2) = 0) => ?_) (fun (h2 : ¬ ((zv_X12_isScene I l2) = 0)) => ?_)
          · rw [if_pos h2] at hr
            exact zz_wk [true, false, false, false] rfl (ih45 _ _ _ _ _ _ hr)
          · rw [if_neg h2] at hr
            refine And.intro (rfl) (And.intro (Or.inl rfl) ?_)
            have g1 : ¬ (l2 < 0 ∨ 18 ≤ l2.toNatClampNeg) := zz_g hr
            replace hr := zz_gt hr
            refine And.intro (g1) (And.intro (fun (h3 : (I 53 l2.toNatClampNeg) = 0) => ?_) (fun (h3 : ¬ ((I 53 l2.toNatClampNeg) = 0)) => ?_))
            · rw [if_pos h3] at hr
              show zz_run _ 254 47 [some (.ref 52), some (.int l1), some (.int l2), none] [] (zz_S F I J) _ _
              refine zs_254_47 ?_
              refine And.intro (rfl) (And.intro (rfl) (And.intro (g1) ?_))
              replace hr := Option.some.inj hr
              subst hr
              exact And.intro rfl (And.intro rfl rfl)
            · rw [if_neg h3] at hr
              exact zz_wk [true, false, false, false] rfl (ih45 _ _ _ _ _ _ hr)
        · rw [if_neg s1_1] at hr
          have es1_0 : ¬ (119 : Int) = l1.toInt := fun q => s1_0 (zz_toI q.symm rfl)
          have es1_1 : ¬ (120 : Int) = l1.toInt := fun q => s1_1 (zz_toI q.symm rfl)
          refine zz_sw (t' := 69) (show zz_t 1 (Op.lookupswitch.offset [(119, 55), (120, 27)] 68 l1.toInt) = 69 from by simp only [Op.lookupswitch.offset, if_neg es1_0, if_neg es1_1]; rfl) ?_
          show zz_run _ 254 69 [some (.ref 52), some (.int l1), some (.int l2), none] [] (zz_S F I J) _ _
          refine zs_254_69 ?_
          refine And.intro (rfl) (And.intro (rfl) (And.intro (Nat.le_of_ble_eq_true rfl) (And.intro (Nat.le_of_ble_eq_true rfl) (And.intro (Nat.le_of_ble_eq_true rfl) ?_))))
          obtain ⟨r2, cr2, hr⟩ := Option.bind_eq_some_iff.mp hr
          refine Exists.intro _ (Exists.intro _ (And.intro (zr_X12_nextOf__53 F I J (d+68) N (l1 - 48) r2 cr2) ?_))
          refine And.intro (fun (h4 : ¬ r2.1 = ((-1))) => ?_) (fun (h4 : ¬ (¬ r2.1 = ((-1)))) => ?_)
          · rw [if_pos h4] at hr
            show zz_run _ 254 89 [some (.ref 52), some (.int l1), some (.int l2), some (.int r2.1)] [] (zz_S F I J) _ _
            refine zs_254_89 ?_
            refine And.intro (rfl) (And.intro (rfl) (And.intro (Nat.le_of_ble_eq_true rfl) (And.intro (Nat.le_of_ble_eq_true rfl) (And.intro (Nat.le_of_ble_eq_true rfl) ?_))))
            obtain ⟨r3, cr3, hr⟩ := Option.bind_eq_some_iff.mp hr
            refine Exists.intro _ (Exists.intro _ (And.intro (zr_X12_goPlay__53 d N r2.1 I J F r3 cr3) ?_))
            refine And.intro (rfl) ?_
            replace hr := Option.some.inj hr
            subst hr
            exact And.intro rfl (And.intro rfl rfl)
          · rw [if_neg h4] at hr
            replace hr := Option.some.inj hr
            subst hr
            exact And.intro rfl (And.intro rfl rfl)
    · intro l1 l2 I J F r hr
      rw [ze_X12_act_45] at hr
      unfold zb_X12_act_45 at hr
      refine zs_254_45 ?_
      replace hr := Option.some.inj hr
      subst hr
      exact And.intro rfl (And.intro rfl rfl)
theorem zr_X12_act (d N : Nat) (l1 : Int32) (l2 : Int32) (I : Nat → Nat → Int32) (J : Nat → Nat → Int64) (F : zz_F) (r : Int32 × (Nat → Nat → Int32) × (Nat → Nat → Int64) × zz_F) (h : zf_X12_act N l1 l2 I J F = some r) : zz_run (d+71) 254 0 [some (.ref 52), some (.int l1), some (.int l2), none] [] (zz_S F I J) (some (.int r.1)) (zz_S (r.2.2.2) (r.2.1) (r.2.2.1)) := (zq_X12_act d N N).1 l1 l2 I J F r h
def zb_X12_change_0 (N : Nat) (rec : Nat → Int32 → Int32 → (Nat → Nat → Int32) → (Nat → Nat → Int64) → zz_F → Option (Int32 × (Nat → Nat → Int32) × (Nat → Nat → Int64) × zz_F)) (l1 : Int32) (l2 : Int32) (I : Nat → Nat → Int32) (J : Nat → Nat → Int64) (F : zz_F) : Option (Int32 × (Nat → Nat → Int32) × (Nat → Nat → Int64) × zz_F) := if (zv_X12_isScene (zz_u I 52 7 0) l1) = 0 then (some ((-1), zz_u I 52 7 0, J, F)) else (if ¬ (zv_X12_isScene (zz_u I 52 7 0) l2) = 0 then (if ¬ (((7 * l1) + 2) < 0 ∨ 84 ≤ ((7 * l1) + 2).toNatClampNeg) then (if ¬ (((7 * l2) + 2) < 0 ∨ 84 ≤ ((7 * l2) + 2).toNatClampNeg) then (if ¬ (((zz_u (zz_u I 52 7 0) 52 6 0) 52 6) < 0 ∨ 20 ≤ ((zz_u (zz_u I 52 7 0) 52 6 0) 52 6).toNatClampNeg) then ((some (zw_X12_tell (zz_u (zz_u I 52 7 0) 52 6 0) J (((zv_X12_field I l1 2) &&& (zv_X12_field I l2 2)).toInt64))).bind fun i4 => if ¬ (((7 * l1) + 3) < 0 ∨ 84 ≤ ((7 * l1) + 3).toNatClampNeg) then (if ¬ (((7 * l2) + 3) < 0 ∨ 84 ≤ ((7 * l2) + 3).toNatClampNeg) then (if ¬ ((i4 52 6) < 0 ∨ 20 ≤ (i4 52 6).toNatClampNeg) then ((some (zw_X12_tell i4 (zx_X12_tell (zz_u (zz_u I 52 7 0) 52 6 0) J (((zv_X12_field I l1 2) &&& (zv_X12_field I l2 2)).toInt64)) (((zv_X12_field i4 l1 3) ^^^ (zv_X12_field i4 l2 3)).toInt64))).bind fun i8 => (zf_X12_changeOf N l1 l2 i8 (zx_X12_tell i4 (zx_X12_tell (zz_u (zz_u I 52 7 0) 52 6 0) J (((zv_X12_field I l1 2) &&& (zv_X12_field I l2 2)).toInt64)) (((zv_X12_field i4 l1 3) ^^^ (zv_X12_field i4 l2 3)).toInt64)) F).bind fun r9 => some (r9.1, r9.2.1, r9.2.2.1, r9.2.2.2)) else none) else none) else none) else none) else none) else none) else (some ((-1), zz_u I 52 7 0, J, F)))
def zl_X12_change (N : Nat) : Nat → Nat → Int32 → Int32 → (Nat → Nat → Int32) → (Nat → Nat → Int64) → zz_F → Option (Int32 × (Nat → Nat → Int32) × (Nat → Nat → Int64) × zz_F)
  | 0 => fun _ _ _ _ _ _ => none
  | n + 1 => fun pc l1 l2 I J F => if pc = 0 then zb_X12_change_0 N (zl_X12_change N n) l1 l2 I J F else none
theorem ze_X12_change_0 (N : Nat) (n : Nat) (l1 : Int32) (l2 : Int32) (I : Nat → Nat → Int32) (J : Nat → Nat → Int64) (F : zz_F) : zl_X12_change N (n+1) 0 l1 l2 I J F = zb_X12_change_0 N (zl_X12_change N n) l1 l2 I J F := by
  show (if 0 = 0 then zb_X12_change_0 N (zl_X12_change N n) l1 l2 I J F else none) = _
  rw [if_pos rfl]
def zf_X12_change (N : Nat) (l1 : Int32) (l2 : Int32) (I : Nat → Nat → Int32) (J : Nat → Nat → Int64) (F : zz_F) : Option (Int32 × (Nat → Nat → Int32) × (Nat → Nat → Int64) × zz_F) := zl_X12_change N N 0 l1 l2 I J F
set_option maxHeartbeats 16000000 in
theorem zq_X12_change (d N : Nat) : ∀ n : Nat, (∀ (l1 : Int32) (l2 : Int32) (I : Nat → Nat → Int32) (J : Nat → Nat → Int64) (F : zz_F) (r : Int32 × (Nat → Nat → Int32) × (Nat → Nat → Int64) × zz_F), zl_X12_change N n 0 l1 l2 I J F = some r → zz_run (d+69) 256 0 [some (.ref 52), some (.int l1), some (.int l2)] [] (zz_S F I J) (some (.int r.1)) (zz_S (r.2.2.2) (r.2.1) (r.2.2.1))) := by
  intro n
  induction n with
  | zero => exact fun _ _ _ _ _ _ h => zz_no h
  | succ n ih =>
    have ih0 := ih
    skip
    · intro l1 l2 I J F r hr
      rw [ze_X12_change_0] at hr
      unfold zb_X12_change_0 at hr
      refine zs_256_0 ?_
      refine And.intro (rfl) (And.intro (rfl) (And.intro (And.intro rfl rfl) (And.intro (rfl) (And.intro (Nat.le_of_ble_eq_true rfl) (And.intro (Nat.le_of_ble_eq_true rfl) ?_)))))
      refine And.intro (Nat.le_of_ble_eq_true rfl) ?_
      refine Exists.intro _ (Exists.intro _ (And.intro (zr_X12_isScene F (zz_u I 52 7 0) J (d+67) l1) ?_))
      refine And.intro (fun (h1 : (zv_X12_isScene (zz_u I 52 7 0) l1) = 0) => ?_) (fun (h1 : ¬ ((zv_X12_isScene (zz_u I 52 7 0) l1) = 0)) => ?_)
      · rw [if_pos h1] at hr
        show zz_run _ 256 21 [some (.ref 52), some (.int l1), some (.int l2)] [] (zz_S F (zz_u I 52 7 0) J) _ _
        refine zs_256_21 ?_
        replace hr := Option.some.inj hr
        subst hr
        exact And.intro rfl (And.intro rfl rfl)
      · rw [if_neg h1] at hr
        refine And.intro (rfl) (And.intro (Nat.le_of_ble_eq_true rfl) (And.intro (Nat.le_of_ble_eq_true rfl) (And.intro (Nat.le_of_ble_eq_true rfl) ?_)))
        refine Exists.intro _ (Exists.intro _ (And.intro (zr_X12_isScene F (zz_u I 52 7 0) J (d+67) l2) ?_))
        refine And.intro (fun (h2 : ¬ (zv_X12_isScene (zz_u I 52 7 0) l2) = 0) => ?_) (fun (h2 : ¬ (¬ (zv_X12_isScene (zz_u I 52 7 0) l2) = 0)) => ?_)
        · rw [if_pos h2] at hr
          show zz_run _ 256 23 [some (.ref 52), some (.int l1), some (.int l2)] [] (zz_S F (zz_u I 52 7 0) J) _ _
          refine zs_256_23 ?_
          refine And.intro (rfl) (And.intro (rfl) (And.intro (And.intro rfl rfl) (And.intro (rfl) (And.intro (Nat.le_of_ble_eq_true rfl) (And.intro (Nat.le_of_ble_eq_true rfl) ?_)))))
          refine And.intro (Nat.le_of_ble_eq_true rfl) ?_
          have g1 : ¬ (((7 * l1) + 2) < 0 ∨ 84 ≤ ((7 * l1) + 2).toNatClampNeg) := zz_g hr
          replace hr := zz_gt hr
          refine Exists.intro (some (.int (zv_X12_field I l1 2))) (Exists.intro _ (And.intro (zr_X12_field F (zz_u (zz_u I 52 7 0) 52 6 0) J (d+68) l1 2 g1) ?_))
          refine And.intro (rfl) (And.intro (Nat.le_of_ble_eq_true rfl) (And.intro (Nat.le_of_ble_eq_true rfl) (And.intro (Nat.le_of_ble_eq_true rfl) ?_)))
          have g2 : ¬ (((7 * l2) + 2) < 0 ∨ 84 ≤ ((7 * l2) + 2).toNatClampNeg) := zz_g hr
          replace hr := zz_gt hr
          refine Exists.intro (some (.int (zv_X12_field I l2 2))) (Exists.intro _ (And.intro (zr_X12_field F (zz_u (zz_u I 52 7 0) 52 6 0) J (d+68) l2 2 g2) ?_))
          refine And.intro (rfl) (And.intro (Nat.le_of_ble_eq_true rfl) (And.intro (Nat.le_of_ble_eq_true rfl) (And.intro (Nat.le_of_ble_eq_true rfl) ?_)))
          have g3 : ¬ (((zz_u (zz_u I 52 7 0) 52 6 0) 52 6) < 0 ∨ 20 ≤ ((zz_u (zz_u I 52 7 0) 52 6 0) 52 6).toNatClampNeg) := zz_g hr
          replace hr := zz_gt hr
          obtain ⟨i4, ci4, hr⟩ := Option.bind_eq_some_iff.mp hr
          refine Exists.intro _ (Exists.intro _ (And.intro (zz_bi ci4 (zr_X12_tell F (zz_u (zz_u I 52 7 0) 52 6 0) J (d+68) (((zv_X12_field I l1 2) &&& (zv_X12_field I l2 2)).toInt64) g3)) ?_))
          refine And.intro (rfl) (And.intro (Nat.le_of_ble_eq_true rfl) (And.intro (Nat.le_of_ble_eq_true rfl) (And.intro (Nat.le_of_ble_eq_true rfl) ?_)))
          have g5 : ¬ (((7 * l1) + 3) < 0 ∨ 84 ≤ ((7 * l1) + 3).toNatClampNeg) := zz_g hr
          replace hr := zz_gt hr
          refine Exists.intro _ (Exists.intro _ (And.intro (zr_X12_field F i4 (zx_X12_tell (zz_u (zz_u I 52 7 0) 52 6 0) J (((zv_X12_field I l1 2) &&& (zv_X12_field I l2 2)).toInt64)) (d+68) l1 3 g5) ?_))
          refine And.intro (rfl) (And.intro (Nat.le_of_ble_eq_true rfl) (And.intro (Nat.le_of_ble_eq_true rfl) (And.intro (Nat.le_of_ble_eq_true rfl) ?_)))
          have g6 : ¬ (((7 * l2) + 3) < 0 ∨ 84 ≤ ((7 * l2) + 3).toNatClampNeg) := zz_g hr
          replace hr := zz_gt hr
          refine Exists.intro _ (Exists.intro _ (And.intro (zr_X12_field F i4 (zx_X12_tell (zz_u (zz_u I 52 7 0) 52 6 0) J (((zv_X12_field I l1 2) &&& (zv_X12_field I l2 2)).toInt64)) (d+68) l2 3 g6) ?_))
          refine And.intro (rfl) (And.intro (Nat.le_of_ble_eq_true rfl) (And.intro (Nat.le_of_ble_eq_true rfl) (And.intro (Nat.le_of_ble_eq_true rfl) ?_)))
          have g7 : ¬ ((i4 52 6) < 0 ∨ 20 ≤ (i4 52 6).toNatClampNeg) := zz_g hr
          replace hr := zz_gt hr
          obtain ⟨i8, ci8, hr⟩ := Option.bind_eq_some_iff.mp hr
          refine Exists.intro _ (Exists.intro _ (And.intro (zz_bi ci8 (zr_X12_tell F i4 (zx_X12_tell (zz_u (zz_u I 52 7 0) 52 6 0) J (((zv_X12_field I l1 2) &&& (zv_X12_field I l2 2)).toInt64)) (d+68) (((zv_X12_field i4 l1 3) ^^^ (zv_X12_field i4 l2 3)).toInt64) g7)) ?_))
          refine And.intro (rfl) (And.intro (Nat.le_of_ble_eq_true rfl) (And.intro (Nat.le_of_ble_eq_true rfl) (And.intro (Nat.le_of_ble_eq_true rfl) ?_)))
          obtain ⟨r9, cr9, hr⟩ := Option.bind_eq_some_iff.mp hr
          refine Exists.intro _ (Exists.intro _ (And.intro (zr_X12_changeOf d N l1 l2 i8 (zx_X12_tell i4 (zx_X12_tell (zz_u (zz_u I 52 7 0) 52 6 0) J (((zv_X12_field I l1 2) &&& (zv_X12_field I l2 2)).toInt64)) (((zv_X12_field i4 l1 3) ^^^ (zv_X12_field i4 l2 3)).toInt64)) F r9 cr9) ?_))
          replace hr := Option.some.inj hr
          subst hr
          exact And.intro rfl (And.intro rfl rfl)
        · rw [if_neg h2] at hr
          show zz_run _ 256 21 [some (.ref 52), some (.int l1), some (.int l2)] [] (zz_S F (zz_u I 52 7 0) J) _ _
          refine zs_256_21 ?_
          replace hr := Option.some.inj hr
          subst hr
          exact And.intro rfl (And.intro rfl rfl)
theorem zr_X12_change (d N : Nat) (l1 : Int32) (l2 : Int32) (I : Nat → Nat → Int32) (J : Nat → Nat → Int64) (F : zz_F) (r : Int32 × (Nat → Nat → Int32) × (Nat → Nat → Int64) × zz_F) (h : zf_X12_change N l1 l2 I J F = some r) : zz_run (d+69) 256 0 [some (.ref 52), some (.int l1), some (.int l2)] [] (zz_S F I J) (some (.int r.1)) (zz_S (r.2.2.2) (r.2.1) (r.2.2.1)) := (zq_X12_change d N N) l1 l2 I J F r h
