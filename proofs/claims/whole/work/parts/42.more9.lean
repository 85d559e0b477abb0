/-! printed by wip/whole/loop2.py -/
def zb_X11_years_0 (N : Nat) (rec : Nat → Int32 → Int32 → Int32 → Int32 → Int32 → (Nat → Nat → Int32) → (Nat → Nat → Int64) → Option (Int32 × (Nat → Nat → Int32) × (Nat → Nat → Int64))) (l1 : Int32) (l2 : Int32) (l3 : Int32) (l4 : Int32) (l5 : Int32) (I : Nat → Nat → Int32) (J : Nat → Nat → Int64) : Option (Int32 × (Nat → Nat → Int32) × (Nat → Nat → Int64)) := if l2 < 1 then (rec 11 0 0 0 0 0 I J) else (if l2 ≤ 60 then ((zf_X1_refresh__5 N  I J).bind fun r1 => (zf_X6_hold__8 N  r1.2.1 J).bind fun r2 => rec 43 0 l2 l1 0 0 r2.2.1 J) else (rec 11 0 0 0 0 0 I J))
def zb_X11_years_11 (N : Nat) (rec : Nat → Int32 → Int32 → Int32 → Int32 → Int32 → (Nat → Nat → Int32) → (Nat → Nat → Int64) → Option (Int32 × (Nat → Nat → Int32) × (Nat → Nat → Int64))) (l1 : Int32) (l2 : Int32) (l3 : Int32) (l4 : Int32) (l5 : Int32) (I : Nat → Nat → Int32) (J : Nat → Nat → Int64) : Option (Int32 × (Nat → Nat → Int32) × (Nat → Nat → Int64)) := some ((-1), I, J)
def zb_X11_years_43 (N : Nat) (rec : Nat → Int32 → Int32 → Int32 → Int32 → Int32 → (Nat → Nat → Int32) → (Nat → Nat → Int64) → Option (Int32 × (Nat → Nat → Int32) × (Nat → Nat → Int64))) (l1 : Int32) (l2 : Int32) (l3 : Int32) (l4 : Int32) (l5 : Int32) (I : Nat → Nat → Int32) (J : Nat → Nat → Int64) : Option (Int32 × (Nat → Nat → Int32) × (Nat → Nat → Int64)) := if l2 ≤ l5 then ((zf_X6_putHeldInto__8 N  (zw_X11_tell_ I J l4.toInt64 (((zv_X5_cheersIn I 0) + (zv_X5_cheersIn I 1)).toInt64)) (zx_X11_tell_ I J l4.toInt64 (((zv_X5_cheersIn I 0) + (zv_X5_cheersIn I 1)).toInt64))).bind fun r3 => some (I 8 0, r3.2.1, zx_X11_tell_ I J l4.toInt64 (((zv_X5_cheersIn I 0) + (zv_X5_cheersIn I 1)).toInt64))) else (if ¬ (((((l3 * 1103515245) + 12345).toUInt32 >>> ((16 : Int32).toUInt32 &&& Int32.toUInt32 31)).toInt32) - ((((l3 * 1103515245) + 12345).toUInt32 >>> ((16 : Int32).toUInt32 &&& Int32.toUInt32 31)).toInt32) / 4 * 4) = 3 then (if ¬ (((((l3 * 1103515245) + 12345).toUInt32 >>> ((16 : Int32).toUInt32 &&& Int32.toUInt32 31)).toInt32) - ((((l3 * 1103515245) + 12345).toUInt32 >>> ((16 : Int32).toUInt32 &&& Int32.toUInt32 31)).toInt32) / 4 * 4) = 2 then ((zf_X11_performNext N (((((l3 * 1103515245) + 12345).toUInt32 >>> ((16 : Int32).toUInt32 &&& Int32.toUInt32 31)).toInt32) - ((((l3 * 1103515245) + 12345).toUInt32 >>> ((16 : Int32).toUInt32 &&& Int32.toUInt32 31)).toInt32) / 4 * 4) I J).bind fun r4 => if r4.1 = 0 then (rec 114 0 l2 ((l3 * 1103515245) + 12345) l4 l5 r4.2.1 J) else (rec 114 0 l2 ((l3 * 1103515245) + 12345) (l4 + 1) l5 r4.2.1 J)) else ((zf_X11_performNext N (zv_X11_playNotLast I) I J).bind fun r5 => if r5.1 = 0 then (rec 114 0 l2 ((l3 * 1103515245) + 12345) l4 l5 r5.2.1 J) else (rec 114 0 l2 ((l3 * 1103515245) + 12345) (l4 + 1) l5 r5.2.1 J))) else (rec 114 0 l2 ((l3 * 1103515245) + 12345) l4 l5 (zz_u I 8 0 ((I 8 0) + 1)) J))
def zb_X11_years_114 (N : Nat) (rec : Nat → Int32 → Int32 → Int32 → Int32 → Int32 → (Nat → Nat → Int32) → (Nat → Nat → Int64) → Option (Int32 × (Nat → Nat → Int32) × (Nat → Nat → Int64))) (l1 : Int32) (l2 : Int32) (l3 : Int32) (l4 : Int32) (l5 : Int32) (I : Nat → Nat → Int32) (J : Nat → Nat → Int64) : Option (Int32 × (Nat → Nat → Int32) × (Nat → Nat → Int64)) := rec 43 0 l2 l3 l4 (l5 + 1) I J
def zl_X11_years (N : Nat) : Nat → Nat → Int32 → Int32 → Int32 → Int32 → Int32 → (Nat → Nat → Int32) → (Nat → Nat → Int64) → Option (Int32 × (Nat → Nat → Int32) × (Nat → Nat → Int64))
  | 0 => fun _ _ _ _ _ _ _ _ => none
  | n + 1 => fun pc l1 l2 l3 l4 l5 I J => if pc = 0 then zb_X11_years_0 N (zl_X11_years N n) l1 l2 l3 l4 l5 I J else (if pc = 11 then zb_X11_years_11 N (zl_X11_years N n) l1 l2 l3 l4 l5 I J else (if pc = 43 then zb_X11_years_43 N (zl_X11_years N n) l1 l2 l3 l4 l5 I J else (if pc = 114 then zb_X11_years_114 N (zl_X11_years N n) l1 l2 l3 l4 l5 I J else none)))
theorem ze_X11_years_0 (N : Nat) (n : Nat) (l1 : Int32) (l2 : Int32) (l3 : Int32) (l4 : Int32) (l5 : Int32) (I : Nat → Nat → Int32) (J : Nat → Nat → Int64) : zl_X11_years N (n+1) 0 l1 l2 l3 l4 l5 I J = zb_X11_years_0 N (zl_X11_years N n) l1 l2 l3 l4 l5 I J := by
  show (if 0 = 0 then zb_X11_years_0 N (zl_X11_years N n) l1 l2 l3 l4 l5 I J else (if 0 = 11 then zb_X11_years_11 N (zl_X11_years N n) l1 l2 l3 l4 l5 I J else (if 0 = 43 then zb_X11_years_43 N (zl_X11_years N n) l1 l2 l3 l4 l5 I J else (if 0 = 114 then zb_X11_years_114 N (zl_X11_years N n) l1 l2 l3 l4 l5 I J else none)))) = _
  rw [if_pos rfl]
theorem ze_X11_years_11 (N : Nat) (n : Nat) (l1 : Int32) (l2 : Int32) (l3 : Int32) (l4 : Int32) (l5 : Int32) (I : Nat → Nat → Int32) (J : Nat → Nat → Int64) : zl_X11_years N (n+1) 11 l1 l2 l3 l4 l5 I J = zb_X11_years_11 N (zl_X11_years N n) l1 l2 l3 l4 l5 I J := by
  show (if 11 = 0 then zb_X11_years_0 N (zl_X11_years N n) l1 l2 l3 l4 l5 I J else (if 11 = 11 then zb_X11_years_11 N (zl_X11_years N n) l1 l2 l3 l4 l5 I J else (if 11 = 43 then zb_X11_years_43 N (zl_X11_years N n) l1 l2 l3 l4 l5 I J else (if 11 = 114 then zb_X11_years_114 N (zl_X11_years N n) l1 l2 l3 l4 l5 I J else none)))) = _
  rw [if_neg (by decide), if_pos rfl]
theorem ze_X11_years_43 (N : Nat) (n : Nat) (l1 : Int32) (l2 : Int32) (l3 : Int32) (l4 : Int32) (l5 : Int32) (I : Nat → Nat → Int32) (J : Nat → Nat → Int64) : zl_X11_years N (n+1) 43 l1 l2 l3 l4 l5 I J = zb_X11_years_43 N (zl_X11_years N n) l1 l2 l3 l4 l5 I J := by
  show (if 43 = 0 then zb_X11_years_0 N (zl_X11_years N n) l1 l2 l3 l4 l5 I J else (if 43 = 11 then zb_X11_years_11 N (zl_X11_years N n) l1 l2 l3 l4 l5 I J else (if 43 = 43 then zb_X11_years_43 N (zl_X11_years N n) l1 l2 l3 l4 l5 I J else (if 43 = 114 then zb_X11_years_114 N (zl_X11_years N n) l1 l2 l3 l4 l5 I J else none)))) = _
  rw [if_neg (by decide), if_neg (by decide), if_pos rfl]
theorem ze_X11_years_114 (N : Nat) (n : Nat) (l1 : Int32) (l2 : Int32) (l3 : Int32) (l4 : Int32) (l5 : Int32) (I : Nat → Nat → Int32) (J : Nat → Nat → Int64) : zl_X11_years N (n+1) 114 l1 l2 l3 l4 l5 I J = zb_X11_years_114 N (zl_X11_years N n) l1 l2 l3 l4 l5 I J := by
  show (if 114 = 0 then zb_X11_years_0 N (zl_X11_years N n) l1 l2 l3 l4 l5 I J else (if 114 = 11 then zb_X11_years_11 N (zl_X11_years N n) l1 l2 l3 l4 l5 I J else (if 114 = 43 then zb_X11_years_43 N (zl_X11_years N n) l1 l2 l3 l4 l5 I J else (if 114 = 114 then zb_X11_years_114 N (zl_X11_years N n) l1 l2 l3 l4 l5 I J else none)))) = _
  rw [if_neg (by decide), if_neg (by decide), if_neg (by decide), if_pos rfl]
def zf_X11_years (N : Nat) (l1 : Int32) (l2 : Int32) (I : Nat → Nat → Int32) (J : Nat → Nat → Int64) : Option (Int32 × (Nat → Nat → Int32) × (Nat → Nat → Int64)) := zl_X11_years N N 0 l1 l2 0 0 0 I J
set_option maxHeartbeats 16000000 in
theorem zq_X11_years (F : zz_F) (d N : Nat) : ∀ n : Nat, (∀ (l1 : Int32) (l2 : Int32) (l3 : Int32) (l4 : Int32) (l5 : Int32) (I : Nat → Nat → Int32) (J : Nat → Nat → Int64) (r : Int32 × (Nat → Nat → Int32) × (Nat → Nat → Int64)), zl_X11_years N n 0 l1 l2 l3 l4 l5 I J = some r → zz_run (d+5) 173 0 [some (.ref 2), some (.int l1), some (.int l2), none, none, none, none] [] (zz_S F I J) (some (.int r.1)) (zz_S F (r.2.1) (r.2.2))) ∧ (∀ (l1 : Int32) (l2 : Int32) (l3 : Int32) (l4 : Int32) (l5 : Int32) (I : Nat → Nat → Int32) (J : Nat → Nat → Int64) (r : Int32 × (Nat → Nat → Int32) × (Nat → Nat → Int64)), zl_X11_years N n 11 l1 l2 l3 l4 l5 I J = some r → zz_run (d+5) 173 11 [some (.ref 2), none, none, none, none, none, none] [] (zz_S F I J) (some (.int r.1)) (zz_S F (r.2.1) (r.2.2))) ∧ (∀ (l1 : Int32) (l2 : Int32) (l3 : Int32) (l4 : Int32) (l5 : Int32) (I : Nat → Nat → Int32) (J : Nat → Nat → Int64) (r : Int32 × (Nat → Nat → Int32) × (Nat → Nat → Int64)), zl_X11_years N n 43 l1 l2 l3 l4 l5 I J = some r → zz_run (d+5) 173 43 [some (.ref 2), none, some (.int l2), some (.int l3), some (.int l4), some (.int l5), none] [] (zz_S F I J) (some (.int r.1)) (zz_S F (r.2.1) (r.2.2))) ∧ (∀ (l1 : Int32) (l2 : Int32) (l3 : Int32) (l4 : Int32) (l5 : Int32) (I : Nat → Nat → Int32) (J : Nat → Nat → Int64) (r : Int32 × (Nat → Nat → Int32) × (Nat → Nat → Int64)), zl_X11_years N n 114 l1 l2 l3 l4 l5 I J = some r → zz_run (d+5) 173 114 [some (.ref 2), none, some (.int l2), some (.int l3), some (.int l4), some (.int l5), none] [] (zz_S F I J) (some (.int r.1)) (zz_S F (r.2.1) (r.2.2))) := by
  intro n
  induction n with
  | zero => exact ⟨fun _ _ _ _ _ _ _ _ h => zz_no h, fun _ _ _ _ _ _ _ _ h => zz_no h, fun _ _ _ _ _ _ _ _ h => zz_no h, fun _ _ _ _ _ _ _ _ h => zz_no h⟩
  | succ n ih =>
    obtain ⟨ih0, ih11, ih43, ih114⟩ := ih
    refine ⟨?_, ?_, ?_, ?_⟩
    · intro l1 l2 l3 l4 l5 I J r hr
      rw [ze_X11_years_0] at hr
      unfold zb_X11_years_0 at hr
      refine zs_173_0 ?_
      refine And.intro (fun (h1 : l2 < 1) => ?_) (fun (h1 : ¬ (l2 < 1)) => ?_)
      · rw [if_pos h1] at hr
        exact zz_wk [true, false, false, false, false, false, false] rfl (ih11 _ _ _ _ _ _ _ _ hr)
      · rw [if_neg h1] at hr
        refine And.intro (fun (h2 : l2 ≤ 60) => ?_) (fun (h2 : ¬ (l2 ≤ 60)) => ?_)
        · rw [if_pos h2] at hr
          show zz_run _ 173 13 [some (.ref 2), some (.int l1), some (.int l2), none, none, none, none] [] (zz_S F I J) _ _
          refine zs_173_13 ?_
          refine And.intro (rfl) (And.intro (rfl) (And.intro (rfl) (And.intro (Nat.le_of_ble_eq_true rfl) (And.intro (Nat.le_of_ble_eq_true rfl) (And.intro (Nat.le_of_ble_eq_true rfl) ?_)))))
          obtain ⟨r1, cr1, hr⟩ := Option.bind_eq_some_iff.mp hr
          refine Exists.intro _ (Exists.intro _ (And.intro (zr_X1_refresh__5 F I J (d+1) N  r1 cr1) ?_))
          refine And.intro (rfl) (And.intro (rfl) (And.intro (rfl) (And.intro (Nat.le_of_ble_eq_true rfl) (And.intro (Nat.le_of_ble_eq_true rfl) (And.intro (Nat.le_of_ble_eq_true rfl) ?_)))))
          obtain ⟨r2, cr2, hr⟩ := Option.bind_eq_some_iff.mp hr
          refine Exists.intro _ (Exists.intro _ (And.intro (zr_X6_hold__8 F r1.2.1 J (d+3) N  r2 cr2) ?_))
          exact zz_wk [true, false, true, true, true, true, false] rfl (ih43 _ _ _ _ _ _ _ _ hr)
        · rw [if_neg h2] at hr
          exact zz_wk [true, false, false, false, false, false, false] rfl (ih11 _ _ _ _ _ _ _ _ hr)
    · intro l1 l2 l3 l4 l5 I J r hr
      rw [ze_X11_years_11] at hr
      unfold zb_X11_years_11 at hr
      refine zs_173_11 ?_
      replace hr := Option.some.inj hr
      subst hr
      exact And.intro rfl (And.intro rfl rfl)
    · intro l1 l2 l3 l4 l5 I J r hr
      rw [ze_X11_years_43] at hr
      unfold zb_X11_years_43 at hr
      refine zs_173_43 ?_
      refine And.intro (fun (h3 : l2 ≤ l5) => ?_) (fun (h3 : ¬ (l2 ≤ l5)) => ?_)
      · rw [if_pos h3] at hr
        show zz_run _ 173 120 [some (.ref 2), none, some (.int l2), some (.int l3), some (.int l4), some (.int l5), none] [] (zz_S F I J) _ _
        refine zs_173_120 ?_
        refine And.intro (rfl) (And.intro (rfl) (And.intro (rfl) (And.intro (rfl) (And.intro (Nat.le_of_ble_eq_true rfl) (And.intro (Nat.le_of_ble_eq_true rfl) ?_)))))
        refine And.intro (Nat.le_of_ble_eq_true rfl) ?_
        refine Exists.intro _ (Exists.intro _ (And.intro (zr_X5_cheersIn F I J (d+4) 0) ?_))
        refine And.intro (rfl) (And.intro (rfl) (And.intro (Nat.le_of_ble_eq_true rfl) (And.intro (Nat.le_of_ble_eq_true rfl) (And.intro (Nat.le_of_ble_eq_true rfl) ?_))))
        refine Exists.intro _ (Exists.intro _ (And.intro (zr_X5_cheersIn F I J (d+4) 1) ?_))
        refine And.intro (rfl) (And.intro (Nat.le_of_ble_eq_true rfl) (And.intro (Nat.le_of_ble_eq_true rfl) (And.intro (Nat.le_of_ble_eq_true rfl) ?_)))
        refine Exists.intro _ (Exists.intro _ (And.intro (zr_X11_tell_ F I J (d+2) l4.toInt64 (((zv_X5_cheersIn I 0) + (zv_X5_cheersIn I 1)).toInt64)) ?_))
        refine And.intro (rfl) (And.intro (rfl) (And.intro (rfl) (And.intro (Nat.le_of_ble_eq_true rfl) (And.intro (Nat.le_of_ble_eq_true rfl) (And.intro (Nat.le_of_ble_eq_true rfl) ?_)))))
        obtain ⟨r3, cr3, hr⟩ := Option.bind_eq_some_iff.mp hr
        refine Exists.intro _ (Exists.intro _ (And.intro (zr_X6_putHeldInto__8 F (zw_X11_tell_ I J l4.toInt64 (((zv_X5_cheersIn I 0) + (zv_X5_cheersIn I 1)).toInt64)) (zx_X11_tell_ I J l4.toInt64 (((zv_X5_cheersIn I 0) + (zv_X5_cheersIn I 1)).toInt64)) (d+3) N  r3 cr3) ?_))
        replace hr := Option.some.inj hr
        subst hr
        exact And.intro rfl (And.intro rfl rfl)
      · rw [if_neg h3] at hr
        refine And.intro ((by decide : ¬ (4 : Int32) = 0)) (And.intro (fun (h4 : ¬ (((((l3 * 1103515245) + 12345).toUInt32 >>> ((16 : Int32).toUInt32 &&& Int32.toUInt32 31)).toInt32) - ((((l3 * 1103515245) + 12345).toUInt32 >>> ((16 : Int32).toUInt32 &&& Int32.toUInt32 31)).toInt32) / 4 * 4) = 3) => ?_) (fun (h4 : ¬ (¬ (((((l3 * 1103515245) + 12345).toUInt32 >>> ((16 : Int32).toUInt32 &&& Int32.toUInt32 31)).toInt32) - ((((l3 * 1103515245) + 12345).toUInt32 >>> ((16 : Int32).toUInt32 &&& Int32.toUInt32 31)).toInt32) / 4 * 4) = 3)) => ?_))
        · rw [if_pos h4] at hr
          show zz_run _ 173 89 [some (.ref 2), none, some (.int l2), some (.int ((l3 * 1103515245) + 12345)), some (.int l4), some (.int l5), some (.int (((((l3 * 1103515245) + 12345).toUInt32 >>> ((16 : Int32).toUInt32 &&& Int32.toUInt32 31)).toInt32) - ((((l3 * 1103515245) + 12345).toUInt32 >>> ((16 : Int32).toUInt32 &&& Int32.toUInt32 31)).toInt32) / 4 * 4))] [] (zz_S F I J) _ _
          refine zs_173_89 ?_
          refine And.intro (fun (h5 : ¬ (((((l3 * 1103515245) + 12345).toUInt32 >>> ((16 : Int32).toUInt32 &&& Int32.toUInt32 31)).toInt32) - ((((l3 * 1103515245) + 12345).toUInt32 >>> ((16 : Int32).toUInt32 &&& Int32.toUInt32 31)).toInt32) / 4 * 4) = 2) => ?_) (fun (h5 : ¬ (¬ (((((l3 * 1103515245) + 12345).toUInt32 >>> ((16 : Int32).toUInt32 &&& Int32.toUInt32 31)).toInt32) - ((((l3 * 1103515245) + 12345).toUInt32 >>> ((16 : Int32).toUInt32 &&& Int32.toUInt32 31)).toInt32) / 4 * 4) = 2)) => ?_)
          · rw [if_pos h5] at hr
            show zz_run _ 173 103 [some (.ref 2), none, some (.int l2), some (.int ((l3 * 1103515245) + 12345)), some (.int l4), some (.int l5), some (.int (((((l3 * 1103515245) + 12345).toUInt32 >>> ((16 : Int32).toUInt32 &&& Int32.toUInt32 31)).toInt32) - ((((l3 * 1103515245) + 12345).toUInt32 >>> ((16 : Int32).toUInt32 &&& Int32.toUInt32 31)).toInt32) / 4 * 4))] [.ref 2] (zz_S F I J) _ _
            refine zs_173_103 ?_
            show zz_run _ 173 105 [some (.ref 2), none, some (.int l2), some (.int ((l3 * 1103515245) + 12345)), some (.int l4), some (.int l5), some (.int (((((l3 * 1103515245) + 12345).toUInt32 >>> ((16 : Int32).toUInt32 &&& Int32.toUInt32 31)).toInt32) - ((((l3 * 1103515245) + 12345).toUInt32 >>> ((16 : Int32).toUInt32 &&& Int32.toUInt32 31)).toInt32) / 4 * 4))] [.int (((((l3 * 1103515245) + 12345).toUInt32 >>> ((16 : Int32).toUInt32 &&& Int32.toUInt32 31)).toInt32) - ((((l3 * 1103515245) + 12345).toUInt32 >>> ((16 : Int32).toUInt32 &&& Int32.toUInt32 31)).toInt32) / 4 * 4), .ref 2] (zz_S F I J) _ _
            refine zs_173_105 ?_
            refine And.intro (rfl) (And.intro (Nat.le_of_ble_eq_true rfl) (And.intro (Nat.le_of_ble_eq_true rfl) (And.intro (Nat.le_of_ble_eq_true rfl) ?_)))
            obtain ⟨r4, cr4, hr⟩ := Option.bind_eq_some_iff.mp hr
            refine Exists.intro _ (Exists.intro _ (And.intro (zr_X11_performNext F I J d N (((((l3 * 1103515245) + 12345).toUInt32 >>> ((16 : Int32).toUInt32 &&& Int32.toUInt32 31)).toInt32) - ((((l3 * 1103515245) + 12345).toUInt32 >>> ((16 : Int32).toUInt32 &&& Int32.toUInt32 31)).toInt32) / 4 * 4) r4 cr4) ?_))
            refine And.intro (fun (h6 : r4.1 = 0) => ?_) (fun (h6 : ¬ (r4.1 = 0)) => ?_)
            · rw [if_pos h6] at hr
              exact zz_wk [true, false, true, true, true, true, false] rfl (ih114 _ _ _ _ _ _ _ _ hr)
            · rw [if_neg h6] at hr
              exact zz_wk [true, false, true, true, true, true, false] rfl (ih114 _ _ _ _ _ _ _ _ hr)
          · rw [if_neg h5] at hr
            refine And.intro (rfl) (And.intro (Nat.le_of_ble_eq_true rfl) (And.intro (Nat.le_of_ble_eq_true rfl) (And.intro (Nat.le_of_ble_eq_true rfl) ?_)))
            refine Exists.intro _ (Exists.intro _ (And.intro (zr_X11_playNotLast F I J (d+3) ) ?_))
            show zz_run _ 173 105 [some (.ref 2), none, some (.int l2), some (.int ((l3 * 1103515245) + 12345)), some (.int l4), some (.int l5), some (.int (((((l3 * 1103515245) + 12345).toUInt32 >>> ((16 : Int32).toUInt32 &&& Int32.toUInt32 31)).toInt32) - ((((l3 * 1103515245) + 12345).toUInt32 >>> ((16 : Int32).toUInt32 &&& Int32.toUInt32 31)).toInt32) / 4 * 4))] [.int (zv_X11_playNotLast I), .ref 2] (zz_S F I J) _ _
            refine zs_173_105 ?_
            refine And.intro (rfl) (And.intro (Nat.le_of_ble_eq_true rfl) (And.intro (Nat.le_of_ble_eq_true rfl) (And.intro (Nat.le_of_ble_eq_true rfl) ?_)))
            obtain ⟨r5, cr5, hr⟩ := Option.bind_eq_some_iff.mp hr
            refine Exists.intro _ (Exists.intro _ (And.intro (zr_X11_performNext F I J d N (zv_X11_playNotLast I) r5 cr5) ?_))
            refine And.intro (fun (h7 : r5.1 = 0) => ?_) (fun (h7 : ¬ (r5.1 = 0)) => ?_)
            · rw [if_pos h7] at hr
              exact zz_wk [true, false, true, true, true, true, false] rfl (ih114 _ _ _ _ _ _ _ _ hr)
            · rw [if_neg h7] at hr
              exact zz_wk [true, false, true, true, true, true, false] rfl (ih114 _ _ _ _ _ _ _ _ hr)
        · rw [if_neg h4] at hr
          refine And.intro (rfl) (And.intro (rfl) (And.intro (rfl) (And.intro (rfl) (And.intro (rfl) (And.intro (And.intro rfl rfl) ?_)))))
          exact zz_wk [true, false, true, true, true, true, false] rfl (ih114 _ _ _ _ _ _ _ _ hr)
    · intro l1 l2 l3 l4 l5 I J r hr
      rw [ze_X11_years_114] at hr
      unfold zb_X11_years_114 at hr
      refine zs_173_114 ?_
      exact zz_wk [true, false, true, true, true, true, false] rfl (ih43 _ _ _ _ _ _ _ _ hr)
theorem zr_X11_years (F : zz_F) (I : Nat → Nat → Int32) (J : Nat → Nat → Int64) (d N : Nat) (l1 : Int32) (l2 : Int32) (r : Int32 × (Nat → Nat → Int32) × (Nat → Nat → Int64)) (h : zf_X11_years N l1 l2 I J = some r) : zz_run (d+5) 173 0 [some (.ref 2), some (.int l1), some (.int l2), none, none, none, none] [] (zz_S F I J) (some (.int r.1)) (zz_S F (r.2.1) (r.2.2)) := (zq_X11_years F d N N).1 l1 l2 0 0 0 I J r h
def zb_X12_evening_0 (N : Nat) (rec : Nat → Int32 → Int32 → (Nat → Nat → Int32) → (Nat → Nat → Int64) → zz_F → Option (Int32 × (Nat → Nat → Int32) × (Nat → Nat → Int64) × zz_F)) (l1 : Int32) (l2 : Int32) (I : Nat → Nat → Int32) (J : Nat → Nat → Int64) (F : zz_F) : Option (Int32 × (Nat → Nat → Int32) × (Nat → Nat → Int64) × zz_F) := (zf_X12_beginText N 60 (zz_u I 52 7 0) J F).bind fun r1 => rec 13 0 0 r1.2.1 r1.2.2.1 r1.2.2.2
def zb_X12_evening_13 (N : Nat) (rec : Nat → Int32 → Int32 → (Nat → Nat → Int32) → (Nat → Nat → Int64) → zz_F → Option (Int32 × (Nat → Nat → Int32) × (Nat → Nat → Int64) × zz_F)) (l1 : Int32) (l2 : Int32) (I : Nat → Nat → Int32) (J : Nat → Nat → Int64) (F : zz_F) : Option (Int32 × (Nat → Nat → Int32) × (Nat → Nat → Int64) × zz_F) := if (zv_X12_fine I) = 0 then (rec 44 l1 0 I J F) else (if (I 52 9) ≤ (I 52 11) then (rec 44 l1 0 I J F) else ((zf_X12_readAct N (2 * l1) I J F).bind fun r2 => rec 13 (l1 + 1) 0 r2.2.1 r2.2.2.1 r2.2.2.2))
def zb_X12_evening_44 (N : Nat) (rec : Nat → Int32 → Int32 → (Nat → Nat → Int32) → (Nat → Nat → Int64) → zz_F → Option (Int32 × (Nat → Nat → Int32) × (Nat → Nat → Int64) × zz_F)) (l1 : Int32) (l2 : Int32) (I : Nat → Nat → Int32) (J : Nat → Nat → Int64) (F : zz_F) : Option (Int32 × (Nat → Nat → Int32) × (Nat → Nat → Int64) × zz_F) := if ¬ (zv_X12_wasRight I) = 0 then ((zf_X12_lay__53_62 N 0 (zw_X12_wasRight I) J).bind fun r3 => rec 72 l1 0 r3.2.1 J F) else (some (((-1)) - ((zw_X12_wasRight I) 52 12), zw_X12_wasRight I, J, F))
def zb_X12_evening_72 (N : Nat) (rec : Nat → Int32 → Int32 → (Nat → Nat → Int32) → (Nat → Nat → Int64) → zz_F → Option (Int32 × (Nat → Nat → Int32) × (Nat → Nat → Int64) × zz_F)) (l1 : Int32) (l2 : Int32) (I : Nat → Nat → Int32) (J : Nat → Nat → Int64) (F : zz_F) : Option (Int32 × (Nat → Nat → Int32) × (Nat → Nat → Int64) × zz_F) := if l1 ≤ l2 then (rec 108 l1 l2 I J F) else (if ¬ ((2 * l2) < 0 ∨ 160 ≤ (2 * l2).toNatClampNeg) then (if ¬ (((2 * l2) + 1) < 0 ∨ 160 ≤ ((2 * l2) + 1).toNatClampNeg) then ((zf_X12_act N (I 64 ((2 * l2).toNatClampNeg)) (I 64 (((2 * l2) + 1).toNatClampNeg)) I J F).bind fun r6 => if r6.1 = 0 then (rec 108 l1 l2 r6.2.1 r6.2.2.1 r6.2.2.2) else (rec 72 l1 (l2 + 1) r6.2.1 r6.2.2.1 r6.2.2.2)) else none) else none)
def zb_X12_evening_108 (N : Nat) (rec : Nat → Int32 → Int32 → (Nat → Nat → Int32) → (Nat → Nat → Int64) → zz_F → Option (Int32 × (Nat → Nat → Int32) × (Nat → Nat → Int64) × zz_F)) (l1 : Int32) (l2 : Int32) (I : Nat → Nat → Int32) (J : Nat → Nat → Int64) (F : zz_F) : Option (Int32 × (Nat → Nat → Int32) × (Nat → Nat → Int64) × zz_F) := if l2 ≤ 0 then (rec 120 l1 l2 I J F) else ((zf_X12_remember__62 N  I J).bind fun r7 => rec 120 l1 l2 r7.2.1 J F)
def zb_X12_evening_120 (N : Nat) (rec : Nat → Int32 → Int32 → (Nat → Nat → Int32) → (Nat → Nat → Int64) → zz_F → Option (Int32 × (Nat → Nat → Int32) × (Nat → Nat → Int64) × zz_F)) (l1 : Int32) (l2 : Int32) (I : Nat → Nat → Int32) (J : Nat → Nat → Int64) (F : zz_F) : Option (Int32 × (Nat → Nat → Int32) × (Nat → Nat → Int64) × zz_F) := if l1 ≤ l2 then (if ¬ (((zz_u I 52 6 0) 52 6) < 0 ∨ 20 ≤ ((zz_u I 52 6 0) 52 6).toNatClampNeg) then (if ¬ (((zw_X12_tell (zz_u I 52 6 0) J 0) 52 6) < 0 ∨ 20 ≤ ((zw_X12_tell (zz_u I 52 6 0) J 0) 52 6).toNatClampNeg) then ((some (zw_X12_tell (zw_X12_tell (zz_u I 52 6 0) J 0) (zx_X12_tell (zz_u I 52 6 0) J 0) (((zw_X12_tell (zz_u I 52 6 0) J 0) 53 12).toInt64))).bind fun i10 => some (l2, i10, zx_X12_tell (zw_X12_tell (zz_u I 52 6 0) J 0) (zx_X12_tell (zz_u I 52 6 0) J 0) (((zw_X12_tell (zz_u I 52 6 0) J 0) 53 12).toInt64), F)) else none) else none) else (if ¬ (((zz_u I 52 6 0) 52 6) < 0 ∨ 20 ≤ ((zz_u I 52 6 0) 52 6).toNatClampNeg) then (if ¬ (((zw_X12_tell (zz_u I 52 6 0) J 1) 52 6) < 0 ∨ 20 ≤ ((zw_X12_tell (zz_u I 52 6 0) J 1) 52 6).toNatClampNeg) then ((some (zw_X12_tell (zw_X12_tell (zz_u I 52 6 0) J 1) (zx_X12_tell (zz_u I 52 6 0) J 1) (((zw_X12_tell (zz_u I 52 6 0) J 1) 53 12).toInt64))).bind fun i13 => some (l2, i13, zx_X12_tell (zw_X12_tell (zz_u I 52 6 0) J 1) (zx_X12_tell (zz_u I 52 6 0) J 1) (((zw_X12_tell (zz_u I 52 6 0) J 1) 53 12).toInt64), F)) else none) else none)
def zl_X12_evening (N : Nat) : Nat → Nat → Int32 → Int32 → (Nat → Nat → Int32) → (Nat → Nat → Int64) → zz_F → Option (Int32 × (Nat → Nat → Int32) × (Nat → Nat → Int64) × zz_F)
  | 0 => fun _ _ _ _ _ _ => none
  | n + 1 => fun pc l1 l2 I J F => if pc = 0 then zb_X12_evening_0 N (zl_X12_evening N n) l1 l2 I J F else (if pc = 13 then zb_X12_evening_13 N (zl_X12_evening N n) l1 l2 I J F else (if pc = 44 then zb_X12_evening_44 N (zl_X12_evening N n) l1 l2 I J F else (if pc = 72 then zb_X12_evening_72 N (zl_X12_evening N n) l1 l2 I J F else (if pc = 108 then zb_X12_evening_108 N (zl_X12_evening N n) l1 l2 I J F else (if pc = 120 then zb_X12_evening_120 N (zl_X12_evening N n) l1 l2 I J F else none)))))
theorem ze_X12_evening_0 (N : Nat) (n : Nat) (l1 : Int32) (l2 : Int32) (I : Nat → Nat → Int32) (J : Nat → Nat → Int64) (F : zz_F) : zl_X12_evening N (n+1) 0 l1 l2 I J F = zb_X12_evening_0 N (zl_X12_evening N n) l1 l2 I J F := by
  show (if 0 = 0 then zb_X12_evening_0 N (zl_X12_evening N n) l1 l2 I J F else (if 0 = 13 then zb_X12_evening_13 N (zl_X12_evening N n) l1 l2 I J F else (if 0 = 44 then zb_X12_evening_44 N (zl_X12_evening N n) l1 l2 I J F else (if 0 = 72 then zb_X12_evening_72 N (zl_X12_evening N n) l1 l2 I J F else (if 0 = 108 then zb_X12_evening_108 N (zl_X12_evening N n) l1 l2 I J F else (if 0 = 120 then zb_X12_evening_120 N (zl_X12_evening N n) l1 l2 I J F else none)))))) = _
  rw [if_pos rfl]
theorem ze_X12_evening_13 (N : Nat) (n : Nat) (l1 : Int32) (l2 : Int32) (I : Nat → Nat → Int32) (J : Nat → Nat → Int64) (F : zz_F) : zl_X12_evening N (n+1) 13 l1 l2 I J F = zb_X12_evening_13 N (zl_X12_evening N n) l1 l2 I J F := by
  show (if 13 = 0 then zb_X12_evening_0 N (zl_X12_evening N n) l1 l2 I J F else (if 13 = 13 then zb_X12_evening_13 N (zl_X12_evening N n) l1 l2 I J F else (if 13 = 44 then zb_X12_evening_44 N (zl_X12_evening N n) l1 l2 I J F else (if 13 = 72 then zb_X12_evening_72 N (zl_X12_evening N n) l1 l2 I J F else (if 13 = 108 then zb_X12_evening_108 N (zl_X12_evening N n) l1 l2 I J F else (if 13 = 120 then zb_X12_evening_120 N (zl_X12_evening N n) l1 l2 I J F else none)))))) = _
  rw [if_neg (by decide), if_pos rfl]
theorem ze_X12_evening_44 (N : Nat) (n : Nat) (l1 : Int32) (l2 : Int32) (I : Nat → Nat → Int32) (J : Nat → Nat → Int64) (F : zz_F) : zl_X12_evening N (n+1) 44 l1 l2 I J F = zb_X12_evening_44 N (zl_X12_evening N n) l1 l2 I J F := by
  show (if 44 = 0 then zb_X12_evening_0 N (zl_X12_evening N n) l1 l2 I J F else (if 44 = 13 then zb_X12_evening_13 N (zl_X12_evening N n) l1 l2 I J F else (if 44 = 44 then zb_X12_evening_44 N (zl_X12_evening N n) l1 l2 I J F else (if 44 = 72 then zb_X12_evening_72 N (zl_X12_evening N n) l1 l2 I J F else (if 44 = 108 then zb_X12_evening_108 N (zl_X12_evening N n) l1 l2 I J F else (if 44 = 120 then zb_X12_evening_120 N (zl_X12_evening N n) l1 l2 I J F else none)))))) = _
  rw [if_neg (by decide), if_neg (by decide), if_pos rfl]
theorem ze_X12_evening_72 (N : Nat) (n : Nat) (l1 : Int32) (l2 : Int32) (I : Nat → Nat → Int32) (J : Nat → Nat → Int64) (F : zz_F) : zl_X12_evening N (n+1) 72 l1 l2 I J F = zb_X12_evening_72 N (zl_X12_evening N n) l1 l2 I J F := by
  show (if 72 = 0 then zb_X12_evening_0 N (zl_X12_evening N n) l1 l2 I J F else (if 72 = 13 then zb_X12_evening_13 N (zl_X12_evening N n) l1 l2 I J F else (if 72 = 44 then zb_X12_evening_44 N (zl_X12_evening N n) l1 l2 I J F else (if 72 = 72 then zb_X12_evening_72 N (zl_X12_evening N n) l1 l2 I J F else (if 72 = 108 then zb_X12_evening_108 N (zl_X12_evening N n) l1 l2 I J F else (if 72 = 120 then zb_X12_evening_120 N (zl_X12_evening N n) l1 l2 I J F else none)))))) = _
  rw [if_neg (by decide), if_neg (by decide), if_neg (by decide), if_pos rfl]
theorem ze_X12_evening_108 (N : Nat) (n : Nat) (l1 : Int32) (l2 : Int32) (I : Nat → Nat → Int32) (J : Nat → Nat → Int64) (F : zz_F) : zl_X12_evening N (n+1) 108 l1 l2 I J F = zb_X12_evening_108 N (zl_X12_evening N n) l1 l2 I J F := by
  show (if 108 = 0 then zb_X12_evening_0 N (zl_X12_evening N n) l1 l2 I J F else (if 108 = 13 then zb_X12_evening_13 N (zl_X12_evening N n) l1 l2 I J F else (if 108 = 44 then zb_X12_evening_44 N (zl_X12_evening N n) l1 l2 I J F else (if 108 = 72 then zb_X12_evening_72 N (zl_X12_evening N n) l1 l2 I J F else (if 108 = 108 then zb_X12_evening_108 N (zl_X12_evening N n) l1 l2 I J F else (if 108 = 120 then zb_X12_evening_120 N (zl_X12_evening N n) l1 l2 I J F else none)))))) = _
  rw [if_neg (by decide), if_neg (by decide), if_neg (by decide), if_neg (by decide), if_pos rfl]
theorem ze_X12_evening_120 (N : Nat) (n : Nat) (l1 : Int32) (l2 : Int32) (I : Nat → Nat → Int32) (J : Nat → Nat → Int64) (F : zz_F) : zl_X12_evening N (n+1) 120 l1 l2 I J F = zb_X12_evening_120 N (zl_X12_evening N n) l1 l2 I J F := by
  show (if 120 = 0 then zb_X12_evening_0 N (zl_X12_evening N n) l1 l2 I J F else (if 120 = 13 then zb_X12_evening_13 N (zl_X12_evening N n) l1 l2 I J F else (if 120 = 44 then zb_X12_evening_44 N (zl_X12_evening N n) l1 l2 I J F else (if 120 = 72 then zb_X12_evening_72 N (zl_X12_evening N n) l1 l2 I J F else (if 120 = 108 then zb_X12_evening_108 N (zl_X12_evening N n) l1 l2 I J F else (if 120 = 120 then zb_X12_evening_120 N (zl_X12_evening N n) l1 l2 I J F else none)))))) = _
  rw [if_neg (by decide), if_neg (by decide), if_neg (by decide), if_neg (by decide), if_neg (by decide), if_pos rfl]
def zf_X12_evening (N : Nat)  (I : Nat → Nat → Int32) (J : Nat → Nat → Int64) (F : zz_F) : Option (Int32 × (Nat → Nat → Int32) × (Nat → Nat → Int64) × zz_F) := zl_X12_evening N N 0 0 0 I J F
set_option maxHeartbeats 16000000 in
theorem zq_X12_evening (d N : Nat) : ∀ n : Nat, (∀ (l1 : Int32) (l2 : Int32) (I : Nat → Nat → Int32) (J : Nat → Nat → Int64) (F : zz_F) (r : Int32 × (Nat → Nat → Int32) × (Nat → Nat → Int64) × zz_F), zl_X12_evening N n 0 l1 l2 I J F = some r → zz_run (d+72) 252 0 [some (.ref 52), none, none] [] (zz_S F I J) (some (.int r.1)) (zz_S (r.2.2.2) (r.2.1) (r.2.2.1))) ∧ (∀ (l1 : Int32) (l2 : Int32) (I : Nat → Nat → Int32) (J : Nat → Nat → Int64) (F : zz_F) (r : Int32 × (Nat → Nat → Int32) × (Nat → Nat → Int64) × zz_F), zl_X12_evening N n 13 l1 l2 I J F = some r → zz_run (d+72) 252 13 [some (.ref 52), some (.int l1), none] [] (zz_S F I J) (some (.int r.1)) (zz_S (r.2.2.2) (r.2.1) (r.2.2.1))) ∧ (∀ (l1 : Int32) (l2 : Int32) (I : Nat → Nat → Int32) (J : Nat → Nat → Int64) (F : zz_F) (r : Int32 × (Nat → Nat → Int32) × (Nat → Nat → Int64) × zz_F), zl_X12_evening N n 44 l1 l2 I J F = some r → zz_run (d+72) 252 44 [some (.ref 52), some (.int l1), none] [] (zz_S F I J) (some (.int r.1)) (zz_S (r.2.2.2) (r.2.1) (r.2.2.1))) ∧ (∀ (l1 : Int32) (l2 : Int32) (I : Nat → Nat → Int32) (J : Nat → Nat → Int64) (F : zz_F) (r : Int32 × (Nat → Nat → Int32) × (Nat → Nat → Int64) × zz_F), zl_X12_evening N n 72 l1 l2 I J F = some r → zz_run (d+72) 252 72 [some (.ref 52), some (.int l1), some (.int l2)] [] (zz_S F I J) (some (.int r.1)) (zz_S (r.2.2.2) (r.2.1) (r.2.2.1))) ∧ (∀ (l1 : Int32) (l2 : Int32) (I : Nat → Nat → Int32) (J : Nat → Nat → Int64) (F : zz_F) (r : Int32 × (Nat → Nat → Int32) × (Nat → Nat → Int64) × zz_F), zl_X12_evening N n 108 l1 l2 I J F = some r → zz_run (d+72) 252 108 [some (.ref 52), some (.int l1), some (.int l2)] [] (zz_S F I J) (some (.int r.1)) (zz_S (r.2.2.2) (r.2.1) (r.2.2.1))) ∧ (∀ (l1 : Int32) (l2 : Int32) (I : Nat → Nat → Int32) (J : Nat → Nat → Int64) (F : zz_F) (r : Int32 × (Nat → Nat → Int32) × (Nat → Nat → Int64) × zz_F), zl_X12_evening N n 120 l1 l2 I J F = some r → zz_run (d+72) 252 120 [some (.ref 52), some (.int l1), some (.int l2)] [] (zz_S F I J) (some (.int r.1)) (zz_S (r.2.2.2) (r.2.1) (r.2.2.1))) := by
  intro n
  induction n with
  | zero => exact ⟨fun _ _ _ _ _ _ h => zz_no h, fun _ _ _ _ _ _ h => zz_no h, fun _ _ _ _ _ _ h => zz_no h, fun _ _ _ _ _ _ h => zz_no h, fun _ _ _ _ _ _ h => zz_no h, fun _ _ _ _ _ _ h => zz_no h⟩
  | succ n ih =>
    obtain ⟨ih0, ih13, ih44, ih72, ih108, ih120⟩ := ih
    refine ⟨?_, ?_, ?_, ?_, ?_, ?_⟩
    · intro l1 l2 I J F r hr
      rw [ze_X12_evening_0] at hr
      unfold zb_X12_evening_0 at hr
      refine zs_252_0 ?_
      refine And.intro (rfl) (And.intro (rfl) (And.intro (And.intro rfl rfl) (And.intro (rfl) (And.intro (Nat.le_of_ble_eq_true rfl) (And.intro (Nat.le_of_ble_eq_true rfl) ?_)))))
      refine And.intro (Nat.le_of_ble_eq_true rfl) ?_
      obtain ⟨r1, cr1, hr⟩ := Option.bind_eq_some_iff.mp hr
      refine Exists.intro _ (Exists.intro _ (And.intro (zr_X12_beginText (d+70) N 60 (zz_u I 52 7 0) J F r1 cr1) ?_))
      exact zz_wk [true, true, false] rfl (ih13 _ _ _ _ _ _ hr)
    · intro l1 l2 I J F r hr
      rw [ze_X12_evening_13] at hr
      unfold zb_X12_evening_13 at hr
      refine zs_252_13 ?_
      refine And.intro (rfl) (And.intro (Nat.le_of_ble_eq_true rfl) (And.intro (Nat.le_of_ble_eq_true rfl) (And.intro (Nat.le_of_ble_eq_true rfl) ?_)))
      refine Exists.intro _ (Exists.intro _ (And.intro (zr_X12_fine F I J (d+71) ) ?_))
      refine And.intro (fun (h1 : (zv_X12_fine I) = 0) => ?_) (fun (h1 : ¬ ((zv_X12_fine I) = 0)) => ?_)
      · rw [if_pos h1] at hr
        exact zz_wk [true, true, false] rfl (ih44 _ _ _ _ _ _ hr)
      · rw [if_neg h1] at hr
        refine And.intro (rfl) (And.intro (rfl) (And.intro (fun (h2 : (I 52 9) ≤ (I 52 11)) => ?_) (fun (h2 : ¬ ((I 52 9) ≤ (I 52 11))) => ?_)))
        · rw [if_pos h2] at hr
          exact zz_wk [true, true, false] rfl (ih44 _ _ _ _ _ _ hr)
        · rw [if_neg h2] at hr
          refine And.intro (rfl) (And.intro (Nat.le_of_ble_eq_true rfl) (And.intro (Nat.le_of_ble_eq_true rfl) (And.intro (Nat.le_of_ble_eq_true rfl) ?_)))
          obtain ⟨r2, cr2, hr⟩ := Option.bind_eq_some_iff.mp hr
          refine Exists.intro _ (Exists.intro _ (And.intro (zr_X12_readAct (d+68) N (2 * l1) I J F r2 cr2) ?_))
          exact zz_wk [true, true, false] rfl (ih13 _ _ _ _ _ _ hr)
    · intro l1 l2 I J F r hr
      rw [ze_X12_evening_44] at hr
      unfold zb_X12_evening_44 at hr
      refine zs_252_44 ?_
      refine And.intro (rfl) (And.intro (Nat.le_of_ble_eq_true rfl) (And.intro (Nat.le_of_ble_eq_true rfl) (And.intro (Nat.le_of_ble_eq_true rfl) ?_)))
      refine Exists.intro _ (Exists.intro _ (And.intro (zr_X12_wasRight F I J (d+69) ) ?_))
      refine And.intro (fun (h3 : ¬ (zv_X12_wasRight I) = 0) => ?_) (fun (h3 : ¬ (¬ (zv_X12_wasRight I) = 0)) => ?_)
      · rw [if_pos h3] at hr
        show zz_run _ 252 58 [some (.ref 52), some (.int l1), none] [] (zz_S F (zw_X12_wasRight I) J) _ _
        refine zs_252_58 ?_
        refine And.intro (rfl) (And.intro (rfl) (And.intro (Nat.le_of_ble_eq_true rfl) (And.intro (Nat.le_of_ble_eq_true rfl) (And.intro (Nat.le_of_ble_eq_true rfl) ?_))))
        obtain ⟨r3, cr3, hr⟩ := Option.bind_eq_some_iff.mp hr
        refine Exists.intro _ (Exists.intro _ (And.intro (zr_X12_lay__53_62 F (zw_X12_wasRight I) J (d+71) N 0 r3 cr3) ?_))
        exact zz_wk [true, true, true] rfl (ih72 _ _ _ _ _ _ hr)
      · rw [if_neg h3] at hr
        refine And.intro (rfl) ?_
        replace hr := Option.some.inj hr
        subst hr
        exact And.intro rfl (And.intro rfl rfl)
    · intro l1 l2 I J F r hr
      rw [ze_X12_evening_72] at hr
      unfold zb_X12_evening_72 at hr
      refine zs_252_72 ?_
      refine And.intro (fun (h4 : l1 ≤ l2) => ?_) (fun (h4 : ¬ (l1 ≤ l2)) => ?_)
      · rw [if_pos h4] at hr
        exact zz_wk [true, true, true] rfl (ih108 _ _ _ _ _ _ hr)
      · rw [if_neg h4] at hr
        refine And.intro (rfl) (And.intro (Or.inl rfl) ?_)
        have g4 : ¬ ((2 * l2) < 0 ∨ 160 ≤ (2 * l2).toNatClampNeg) := zz_g hr
        replace hr := zz_gt hr
        refine And.intro (g4) (And.intro (rfl) (And.intro (Or.inl rfl) ?_))
        have g5 : ¬ (((2 * l2) + 1) < 0 ∨ 160 ≤ ((2 * l2) + 1).toNatClampNeg) := zz_g hr
        replace hr := zz_gt hr
        refine And.intro (g5) (And.intro (rfl) (And.intro (Nat.le_of_ble_eq_true rfl) (And.intro (Nat.le_of_ble_eq_true rfl) (And.intro (Nat.le_of_ble_eq_true rfl) ?_))))
        obtain ⟨r6, cr6, hr⟩ := Option.bind_eq_some_iff.mp hr
        refine Exists.intro _ (Exists.intro _ (And.intro (zr_X12_act d N (I 64 ((2 * l2).toNatClampNeg)) (I 64 (((2 * l2) + 1).toNatClampNeg)) I J F r6 cr6) ?_))
        refine And.intro (fun (h5 : r6.1 = 0) => ?_) (fun (h5 : ¬ (r6.1 = 0)) => ?_)
        · rw [if_pos h5] at hr
          exact zz_wk [true, true, true] rfl (ih108 _ _ _ _ _ _ hr)
        · rw [if_neg h5] at hr
          exact zz_wk [true, true, true] rfl (ih72 _ _ _ _ _ _ hr)
    · intro l1 l2 I J F r hr
      rw [ze_X12_evening_108] at hr
      unfold zb_X12_evening_108 at hr
      refine zs_252_108 ?_
      refine And.intro (fun (h6 : l2 ≤ 0) => ?_) (fun (h6 : ¬ (l2 ≤ 0)) => ?_)
      · rw [if_pos h6] at hr
        exact zz_wk [true, true, true] rfl (ih120 _ _ _ _ _ _ hr)
      · rw [if_neg h6] at hr
        refine And.intro (rfl) (And.intro (rfl) (And.intro (Nat.le_of_ble_eq_true rfl) (And.intro (Nat.le_of_ble_eq_true rfl) (And.intro (Nat.le_of_ble_eq_true rfl) ?_))))
        obtain ⟨r7, cr7, hr⟩ := Option.bind_eq_some_iff.mp hr
        refine Exists.intro _ (Exists.intro _ (And.intro (zr_X12_remember__62 F I J (d+70) N  r7 cr7) ?_))
        exact zz_wk [true, true, true] rfl (ih120 _ _ _ _ _ _ hr)
    · intro l1 l2 I J F r hr
      rw [ze_X12_evening_120] at hr
      unfold zb_X12_evening_120 at hr
      refine zs_252_120 ?_
      refine And.intro (rfl) (And.intro (rfl) (And.intro (And.intro rfl rfl) (And.intro (fun (h7 : l1 ≤ l2) => ?_) (fun (h7 : ¬ (l1 ≤ l2)) => ?_))))
      · rw [if_pos h7] at hr
        show zz_run _ 252 135 [some (.ref 52), some (.int l1), some (.int l2)] [.ref 52] (zz_S F (zz_u I 52 6 0) J) _ _
        refine zs_252_135 ?_
        show zz_run _ 252 136 [some (.ref 52), some (.int l1), some (.int l2)] [.long 0, .ref 52] (zz_S F (zz_u I 52 6 0) J) _ _
        refine zs_252_136 ?_
        refine And.intro (rfl) (And.intro (Nat.le_of_ble_eq_true rfl) (And.intro (Nat.le_of_ble_eq_true rfl) (And.intro (Nat.le_of_ble_eq_true rfl) ?_)))
        have g8 : ¬ (((zz_u I 52 6 0) 52 6) < 0 ∨ 20 ≤ ((zz_u I 52 6 0) 52 6).toNatClampNeg) := zz_g hr
        replace hr := zz_gt hr
        refine Exists.intro _ (Exists.intro _ (And.intro (zr_X12_tell F (zz_u I 52 6 0) J (d+71) 0 g8) ?_))
        refine And.intro (rfl) (And.intro (Or.inl rfl) (And.intro (zz_vk (k := 12) rfl rfl) (And.intro (rfl) (And.intro (Nat.le_of_ble_eq_true rfl) (And.intro (Nat.le_of_ble_eq_true rfl) ?_)))))
        refine And.intro (Nat.le_of_ble_eq_true rfl) ?_
        have g9 : ¬ (((zw_X12_tell (zz_u I 52 6 0) J 0) 52 6) < 0 ∨ 20 ≤ ((zw_X12_tell (zz_u I 52 6 0) J 0) 52 6).toNatClampNeg) := zz_g hr
        replace hr := zz_gt hr
        obtain ⟨i10, ci10, hr⟩ := Option.bind_eq_some_iff.mp hr
        refine Exists.intro _ (Exists.intro _ (And.intro (zz_bi ci10 (zr_X12_tell F (zw_X12_tell (zz_u I 52 6 0) J 0) (zx_X12_tell (zz_u I 52 6 0) J 0) (d+71) (((zw_X12_tell (zz_u I 52 6 0) J 0) 53 12).toInt64) g9)) ?_))
        replace hr := Option.some.inj hr
        subst hr
        exact And.intro rfl (And.intro rfl rfl)
      · rw [if_neg h7] at hr
        show zz_run _ 252 136 [some (.ref 52), some (.int l1), some (.int l2)] [.long 1, .ref 52] (zz_S F (zz_u I 52 6 0) J) _ _
        refine zs_252_136 ?_
        refine And.intro (rfl) (And.intro (Nat.le_of_ble_eq_true rfl) (And.intro (Nat.le_of_ble_eq_true rfl) (And.intro (Nat.le_of_ble_eq_true rfl) ?_)))
        have g11 : ¬ (((zz_u I 52 6 0) 52 6) < 0 ∨ 20 ≤ ((zz_u I 52 6 0) 52 6).toNatClampNeg) := zz_g hr
        replace hr := zz_gt hr
        refine Exists.intro _ (Exists.intro _ (And.intro (zr_X12_tell F (zz_u I 52 6 0) J (d+71) 1 g11) ?_))
        refine And.intro (rfl) (And.intro (Or.inl rfl) (And.intro (zz_vk (k := 12) rfl rfl) (And.intro (rfl) (And.intro (Nat.le_of_ble_eq_true rfl) (And.intro (Nat.le_of_ble_eq_true rfl) ?_)))))
        refine And.intro (Nat.le_of_ble_eq_true rfl) ?_
        have g12 : ¬ (((zw_X12_tell (zz_u I 52 6 0) J 1) 52 6) < 0 ∨ 20 ≤ ((zw_X12_tell (zz_u I 52 6 0) J 1) 52 6).toNatClampNeg) := zz_g hr
        replace hr := zz_gt hr
        obtain ⟨i13, ci13, hr⟩ := Option.bind_eq_some_iff.mp hr
        refine Exists.intro _ (Exists.intro _ (And.intro (zz_bi ci13 (zr_X12_tell F (zw_X12_tell (zz_u I 52 6 0) J 1) (zx_X12_tell (zz_u I 52 6 0) J 1) (d+71) (((zw_X12_tell (zz_u I 52 6 0) J 1) 53 12).toInt64) g12)) ?_))
        replace hr := Option.some.inj hr
        subst hr
        exact And.intro rfl (And.intro rfl rfl)
theorem zr_X12_evening (d N : Nat)  (I : Nat → Nat → Int32) (J : Nat → Nat → Int64) (F : zz_F) (r : Int32 × (Nat → Nat → Int32) × (Nat → Nat → Int64) × zz_F) (h : zf_X12_evening N  I J F = some r) : zz_run (d+72) 252 0 [some (.ref 52), none, none] [] (zz_S F I J) (some (.int r.1)) (zz_S (r.2.2.2) (r.2.1) (r.2.2.1)) := (zq_X12_evening d N N).1 0 0 I J F r h
def zb_X12_layWeaves_0 (N : Nat) (rec : Nat → Int32 → (Nat → Nat → Int32) → (Nat → Nat → Int64) → zz_F → Option (Int32 × (Nat → Nat → Int32) × (Nat → Nat → Int64) × zz_F)) (l1 : Int32) (I : Nat → Nat → Int32) (J : Nat → Nat → Int64) (F : zz_F) : Option (Int32 × (Nat → Nat → Int32) × (Nat → Nat → Int64) × zz_F) := rec 24 0 (zz_u (zz_u (zz_u (zz_u I 52 28 0) 52 29 1000000) 52 30 0) 52 35 0) J F
def zb_X12_layWeaves_24 (N : Nat) (rec : Nat → Int32 → (Nat → Nat → Int32) → (Nat → Nat → Int64) → zz_F → Option (Int32 × (Nat → Nat → Int32) × (Nat → Nat → Int64) × zz_F)) (l1 : Int32) (I : Nat → Nat → Int32) (J : Nat → Nat → Int64) (F : zz_F) : Option (Int32 × (Nat → Nat → Int32) × (Nat → Nat → Int64) × zz_F) := if 2 ≤ l1 then (rec 53 0 I J F) else (if ¬ (l1 < 0 ∨ 2 ≤ l1.toNatClampNeg) then (rec 24 (l1 + 1) (zz_u (zz_u I 69 l1.toNatClampNeg 1000000) 67 l1.toNatClampNeg 0) J F) else none)
def zb_X12_layWeaves_53 (N : Nat) (rec : Nat → Int32 → (Nat → Nat → Int32) → (Nat → Nat → Int64) → zz_F → Option (Int32 × (Nat → Nat → Int32) × (Nat → Nat → Int64) × zz_F)) (l1 : Int32) (I : Nat → Nat → Int32) (J : Nat → Nat → Int64) (F : zz_F) : Option (Int32 × (Nat → Nat → Int32) × (Nat → Nat → Int64) × zz_F) := if 12 < l1 then (rec 76 0 I J F) else (if ¬ (l1 < 0 ∨ 13 ≤ l1.toNatClampNeg) then (rec 53 (l1 + 1) (zz_u I 68 l1.toNatClampNeg 1000000) J F) else none)
def zb_X12_layWeaves_76 (N : Nat) (rec : Nat → Int32 → (Nat → Nat → Int32) → (Nat → Nat → Int64) → zz_F → Option (Int32 × (Nat → Nat → Int32) × (Nat → Nat → Int64) × zz_F)) (l1 : Int32) (I : Nat → Nat → Int32) (J : Nat → Nat → Int64) (F : zz_F) : Option (Int32 × (Nat → Nat → Int32) × (Nat → Nat → Int64) × zz_F) := if 12 ≤ l1 then ((zf_X12_whereBits N 0 I J).bind fun r3 => (zf_X12_goWeaves_ N r3.1 (I 53 13) 0 0 I J F).bind fun r4 => some (0, r4.2.1, r4.2.2.1, r4.2.2.2)) else (if ¬ (l1 < 0 ∨ 12 ≤ l1.toNatClampNeg) then (rec 76 (l1 + 1) (zz_u I 70 l1.toNatClampNeg 1000000) J F) else none)
def zl_X12_layWeaves (N : Nat) : Nat → Nat → Int32 → (Nat → Nat → Int32) → (Nat → Nat → Int64) → zz_F → Option (Int32 × (Nat → Nat → Int32) × (Nat → Nat → Int64) × zz_F)
  | 0 => fun _ _ _ _ _ => none
  | n + 1 => fun pc l1 I J F => if pc = 0 then zb_X12_layWeaves_0 N (zl_X12_layWeaves N n) l1 I J F else (if pc = 24 then zb_X12_layWeaves_24 N (zl_X12_layWeaves N n) l1 I J F else (if pc = 53 then zb_X12_layWeaves_53 N (zl_X12_layWeaves N n) l1 I J F else (if pc = 76 then zb_X12_layWeaves_76 N (zl_X12_layWeaves N n) l1 I J F else none)))
theorem ze_X12_layWeaves_0 (N : Nat) (n : Nat) (l1 : Int32) (I : Nat → Nat → Int32) (J : Nat → Nat → Int64) (F : zz_F) : zl_X12_layWeaves N (n+1) 0 l1 I J F = zb_X12_layWeaves_0 N (zl_X12_layWeaves N n) l1 I J F := by
  show (if 0 = 0 then zb_X12_layWeaves_0 N (zl_X12_layWeaves N n) l1 I J F else (if 0 = 24 then zb_X12_layWeaves_24 N (zl_X12_layWeaves N n) l1 I J F else (if 0 = 53 then zb_X12_layWeaves_53 N (zl_X12_layWeaves N n) l1 I J F else (if 0 = 76 then zb_X12_layWeaves_76 N (zl_X12_layWeaves N n) l1 I J F else none)))) = _
  rw [if_pos rfl]
theorem ze_X12_layWeaves_24 (N : Nat) (n : Nat) (l1 : Int32) (I : Nat → Nat → Int32) (J : Nat → Nat → Int64) (F : zz_F) : zl_X12_layWeaves N (n+1) 24 l1 I J F = zb_X12_layWeaves_24 N (zl_X12_layWeaves N n) l1 I J F := by
  show (if 24 = 0 then zb_X12_layWeaves_0 N (zl_X12_layWeaves N n) l1 I J F else (if 24 = 24 then zb_X12_layWeaves_24 N (zl_X12_layWeaves N n) l1 I J F else (if 24 = 53 then zb_X12_layWeaves_53 N (zl_X12_layWeaves N n) l1 I J F else (if 24 = 76 then zb_X12_layWeaves_76 N (zl_X12_layWeaves N n) l1 I J F else none)))) = _
  rw [if_neg (by decide), if_pos rfl]
theorem ze_X12_layWeaves_53 (N : Nat) (n : Nat) (l1 : Int32) (I : Nat → Nat → Int32) (J : Nat → Nat → Int64) (F : zz_F) : zl_X12_layWeaves N (n+1) 53 l1 I J F = zb_X12_layWeaves_53 N (zl_X12_layWeaves N n) l1 I J F := by
  show (if 53 = 0 then zb_X12_layWeaves_0 N (zl_X12_layWeaves N n) l1 I J F else (if 53 = 24 then zb_X12_layWeaves_24 N (zl_X12_layWeaves N n) l1 I J F else (if 53 = 53 then zb_X12_layWeaves_53 N (zl_X12_layWeaves N n) l1 I J F else (if 53 = 76 then zb_X12_layWeaves_76 N (zl_X12_layWeaves N n) l1 I J F else none)))) = _
  rw [if_neg (by decide), if_neg (by decide), if_pos rfl]
theorem ze_X12_layWeaves_76 (N : Nat) (n : Nat) (l1 : Int32) (I : Nat → Nat → Int32) (J : Nat → Nat → Int64) (F : zz_F) : zl_X12_layWeaves N (n+1) 76 l1 I J F = zb_X12_layWeaves_76 N (zl_X12_layWeaves N n) l1 I J F := by
  show (if 76 = 0 then zb_X12_layWeaves_0 N (zl_X12_layWeaves N n) l1 I J F else (if 76 = 24 then zb_X12_layWeaves_24 N (zl_X12_layWeaves N n) l1 I J F else (if 76 = 53 then zb_X12_layWeaves_53 N (zl_X12_layWeaves N n) l1 I J F else (if 76 = 76 then zb_X12_layWeaves_76 N (zl_X12_layWeaves N n) l1 I J F else none)))) = _
  rw [if_neg (by decide), if_neg (by decide), if_neg (by decide), if_pos rfl]
def zf_X12_layWeaves (N : Nat)  (I : Nat → Nat → Int32) (J : Nat → Nat → Int64) (F : zz_F) : Option (Int32 × (Nat → Nat → Int32) × (Nat → Nat → Int64) × zz_F) := zl_X12_layWeaves N N 0 0 I J F
set_option maxHeartbeats 16000000 in
theorem zq_X12_layWeaves (d N : Nat) : ∀ n : Nat, (∀ (l1 : Int32) (I : Nat → Nat → Int32) (J : Nat → Nat → Int64) (F : zz_F) (r : Int32 × (Nat → Nat → Int32) × (Nat → Nat → Int64) × zz_F), zl_X12_layWeaves N n 0 l1 I J F = some r → zz_run (d+85) 259 0 [some (.ref 52), none] [] (zz_S F I J) none (zz_S (r.2.2.2) (r.2.1) (r.2.2.1))) ∧ (∀ (l1 : Int32) (I : Nat → Nat → Int32) (J : Nat → Nat → Int64) (F : zz_F) (r : Int32 × (Nat → Nat → Int32) × (Nat → Nat → Int64) × zz_F), zl_X12_layWeaves N n 24 l1 I J F = some r → zz_run (d+85) 259 24 [some (.ref 52), some (.int l1)] [] (zz_S F I J) none (zz_S (r.2.2.2) (r.2.1) (r.2.2.1))) ∧ (∀ (l1 : Int32) (I : Nat → Nat → Int32) (J : Nat → Nat → Int64) (F : zz_F) (r : Int32 × (Nat → Nat → Int32) × (Nat → Nat → Int64) × zz_F), zl_X12_layWeaves N n 53 l1 I J F = some r → zz_run (d+85) 259 53 [some (.ref 52), some (.int l1)] [] (zz_S F I J) none (zz_S (r.2.2.2) (r.2.1) (r.2.2.1))) ∧ (∀ (l1 : Int32) (I : Nat → Nat → Int32) (J : Nat → Nat → Int64) (F : zz_F) (r : Int32 × (Nat → Nat → Int32) × (Nat → Nat → Int64) × zz_F), zl_X12_layWeaves N n 76 l1 I J F = some r → zz_run (d+85) 259 76 [some (.ref 52), some (.int l1)] [] (zz_S F I J) none (zz_S (r.2.2.2) (r.2.1) (r.2.2.1))) := by
  intro n
  induction n with
  | zero => exact ⟨fun _ _ _ _ _ h => zz_no h, fun _ _ _ _ _ h => zz_no h, fun _ _ _ _ _ h => zz_no h, fun _ _ _ _ _ h => zz_no h⟩
  | succ n ih =>
    obtain ⟨ih0, ih24, ih53, ih76⟩ := ih
    refine ⟨?_, ?_, ?_, ?_⟩
    · intro l1 I J F r hr
      rw [ze_X12_layWeaves_0] at hr
      unfold zb_X12_layWeaves_0 at hr
      refine zs_259_0 ?_
      refine And.intro (rfl) (And.intro (rfl) (And.intro (And.intro rfl rfl) (And.intro (rfl) (And.intro (rfl) (And.intro (And.intro rfl rfl) ?_)))))
      refine And.intro (rfl) (And.intro (rfl) (And.intro (And.intro rfl rfl) (And.intro (rfl) (And.intro (rfl) (And.intro (And.intro rfl rfl) ?_)))))
      exact zz_wk [true, true] rfl (ih24 _ _ _ _ _ hr)
    · intro l1 I J F r hr
      rw [ze_X12_layWeaves_24] at hr
      unfold zb_X12_layWeaves_24 at hr
      refine zs_259_24 ?_
      refine And.intro (fun (h1 : 2 ≤ l1) => ?_) (fun (h1 : ¬ (2 ≤ l1)) => ?_)
      · rw [if_pos h1] at hr
        show zz_run _ 259 51 [some (.ref 52), some (.int l1)] [] (zz_S F I J) _ _
        refine zs_259_51 ?_
        exact zz_wk [true, true] rfl (ih53 _ _ _ _ _ hr)
      · rw [if_neg h1] at hr
        refine And.intro (rfl) (And.intro (rfl) ?_)
        have g1 : ¬ (l1 < 0 ∨ 2 ≤ l1.toNatClampNeg) := zz_g hr
        replace hr := zz_gt hr
        refine And.intro (g1) (And.intro (rfl) (And.intro (rfl) (And.intro (g1) ?_)))
        exact zz_wk [true, true] rfl (ih24 _ _ _ _ _ hr)
    · intro l1 I J F r hr
      rw [ze_X12_layWeaves_53] at hr
      unfold zb_X12_layWeaves_53 at hr
      refine zs_259_53 ?_
      refine And.intro (fun (h2 : 12 < l1) => ?_) (fun (h2 : ¬ (12 < l1)) => ?_)
      · rw [if_pos h2] at hr
        show zz_run _ 259 74 [some (.ref 52), some (.int l1)] [] (zz_S F I J) _ _
        refine zs_259_74 ?_
        exact zz_wk [true, true] rfl (ih76 _ _ _ _ _ hr)
      · rw [if_neg h2] at hr
        refine And.intro (rfl) (And.intro (rfl) ?_)
        have g2 : ¬ (l1 < 0 ∨ 13 ≤ l1.toNatClampNeg) := zz_g hr
        replace hr := zz_gt hr
        refine And.intro (g2) ?_
        exact zz_wk [true, true] rfl (ih53 _ _ _ _ _ hr)
    · intro l1 I J F r hr
      rw [ze_X12_layWeaves_76] at hr
      unfold zb_X12_layWeaves_76 at hr
      refine zs_259_76 ?_
      refine And.intro (fun (h3 : 12 ≤ l1) => ?_) (fun (h3 : ¬ (12 ≤ l1)) => ?_)
      · rw [if_pos h3] at hr
        show zz_run _ 259 97 [some (.ref 52), some (.int l1)] [] (zz_S F I J) _ _
        refine zs_259_97 ?_
        refine And.intro (rfl) (And.intro (Nat.le_of_ble_eq_true rfl) (And.intro (Nat.le_of_ble_eq_true rfl) (And.intro (Nat.le_of_ble_eq_true rfl) ?_)))
        obtain ⟨r3, cr3, hr⟩ := Option.bind_eq_some_iff.mp hr
        refine Exists.intro _ (Exists.intro _ (And.intro (zr_X12_whereBits F I J (d+84) N 0 r3 cr3) ?_))
        refine And.intro (rfl) (And.intro (Or.inl rfl) (And.intro (zz_vk (k := 13) rfl rfl) (And.intro (rfl) (And.intro (Nat.le_of_ble_eq_true rfl) (And.intro (Nat.le_of_ble_eq_true rfl) ?_)))))
        refine And.intro (Nat.le_of_ble_eq_true rfl) ?_
        obtain ⟨r4, cr4, hr⟩ := Option.bind_eq_some_iff.mp hr
        refine Exists.intro _ (Exists.intro _ (And.intro (zr_X12_goWeaves_ d N r3.1 (I 53 13) 0 0 I J F r4 cr4) ?_))
        replace hr := Option.some.inj hr
        subst hr
        exact And.intro rfl (And.intro rfl rfl)
      · rw [if_neg h3] at hr
        refine And.intro (rfl) (And.intro (rfl) ?_)
        have g5 : ¬ (l1 < 0 ∨ 12 ≤ l1.toNatClampNeg) := zz_g hr
        replace hr := zz_gt hr
        refine And.intro (g5) ?_
        exact zz_wk [true, true] rfl (ih76 _ _ _ _ _ hr)
theorem zr_X12_layWeaves (d N : Nat)  (I : Nat → Nat → Int32) (J : Nat → Nat → Int64) (F : zz_F) (r : Int32 × (Nat → Nat → Int32) × (Nat → Nat → Int64) × zz_F) (h : zf_X12_layWeaves N  I J F = some r) : zz_run (d+85) 259 0 [some (.ref 52), none] [] (zz_S F I J) none (zz_S (r.2.2.2) (r.2.1) (r.2.2.1)) := (zq_X12_layWeaves d N N).1 0 I J F r h
def zb_X12_weave_0 (N : Nat) (rec : Nat → Int32 → (Nat → Nat → Int32) → (Nat → Nat → Int64) → zz_F → Option (Int32 × (Nat → Nat → Int32) × (Nat → Nat → Int64) × zz_F)) (l1 : Int32) (I : Nat → Nat → Int32) (J : Nat → Nat → Int64) (F : zz_F) : Option (Int32 × (Nat → Nat → Int32) × (Nat → Nat → Int64) × zz_F) := (zf_X12_layWeaves N  (zz_u I 52 7 0) J F).bind fun r1 => rec 16 0 (zz_u r1.2.1 52 6 0) r1.2.2.1 r1.2.2.2
def zb_X12_weave_16 (N : Nat) (rec : Nat → Int32 → (Nat → Nat → Int32) → (Nat → Nat → Int64) → zz_F → Option (Int32 × (Nat → Nat → Int32) × (Nat → Nat → Int64) × zz_F)) (l1 : Int32) (I : Nat → Nat → Int32) (J : Nat → Nat → Int64) (F : zz_F) : Option (Int32 × (Nat → Nat → Int32) × (Nat → Nat → Int64) × zz_F) := (zf_X12_whereBits N 0 I J).bind fun r2 => if (zv_J6_bitCount r2.1) ≤ l1 then (some (I 52 29, I, J, F)) else (if ¬ (l1 < 0 ∨ 12 ≤ l1.toNatClampNeg) then (if ¬ ((I 52 6) < 0 ∨ 20 ≤ (I 52 6).toNatClampNeg) then (rec 16 (l1 + 1) (zw_X12_tell I J ((I 66 l1.toNatClampNeg).toInt64)) (zx_X12_tell I J ((I 66 l1.toNatClampNeg).toInt64)) F) else none) else none)
def zl_X12_weave (N : Nat) : Nat → Nat → Int32 → (Nat → Nat → Int32) → (Nat → Nat → Int64) → zz_F → Option (Int32 × (Nat → Nat → Int32) × (Nat → Nat → Int64) × zz_F)
  | 0 => fun _ _ _ _ _ => none
  | n + 1 => fun pc l1 I J F => if pc = 0 then zb_X12_weave_0 N (zl_X12_weave N n) l1 I J F else (if pc = 16 then zb_X12_weave_16 N (zl_X12_weave N n) l1 I J F else none)
theorem ze_X12_weave_0 (N : Nat) (n : Nat) (l1 : Int32) (I : Nat → Nat → Int32) (J : Nat → Nat → Int64) (F : zz_F) : zl_X12_weave N (n+1) 0 l1 I J F = zb_X12_weave_0 N (zl_X12_weave N n) l1 I J F := by
  show (if 0 = 0 then zb_X12_weave_0 N (zl_X12_weave N n) l1 I J F else (if 0 = 16 then zb_X12_weave_16 N (zl_X12_weave N n) l1 I J F else none)) = _
  rw [if_pos rfl]
theorem ze_X12_weave_16 (N : Nat) (n : Nat) (l1 : Int32) (I : Nat → Nat → Int32) (J : Nat → Nat → Int64) (F : zz_F) : zl_X12_weave N (n+1) 16 l1 I J F = zb_X12_weave_16 N (zl_X12_weave N n) l1 I J F := by
  show (if 16 = 0 then zb_X12_weave_0 N (zl_X12_weave N n) l1 I J F else (if 16 = 16 then zb_X12_weave_16 N (zl_X12_weave N n) l1 I J F else none)) = _
  rw [if_neg (by decide), if_pos rfl]
def zf_X12_weave (N : Nat)  (I : Nat → Nat → Int32) (J : Nat → Nat → Int64) (F : zz_F) : Option (Int32 × (Nat → Nat → Int32) × (Nat → Nat → Int64) × zz_F) := zl_X12_weave N N 0 0 I J F
set_option maxHeartbeats 16000000 in
theorem zq_X12_weave (d N : Nat) : ∀ n : Nat, (∀ (l1 : Int32) (I : Nat → Nat → Int32) (J : Nat → Nat → Int64) (F : zz_F) (r : Int32 × (Nat → Nat → Int32) × (Nat → Nat → Int64) × zz_F), zl_X12_weave N n 0 l1 I J F = some r → zz_run (d+86) 260 0 [some (.ref 52), none] [] (zz_S F I J) (some (.int r.1)) (zz_S (r.2.2.2) (r.2.1) (r.2.2.1))) ∧ (∀ (l1 : Int32) (I : Nat → Nat → Int32) (J : Nat → Nat → Int64) (F : zz_F) (r : Int32 × (Nat → Nat → Int32) × (Nat → Nat → Int64) × zz_F), zl_X12_weave N n 16 l1 I J F = some r → zz_run (d+86) 260 16 [some (.ref 52), some (.int l1)] [] (zz_S F I J) (some (.int r.1)) (zz_S (r.2.2.2) (r.2.1) (r.2.2.1))) := by
  intro n
  induction n with
  | zero => exact ⟨fun _ _ _ _ _ h => zz_no h, fun _ _ _ _ _ h => zz_no h⟩
  | succ n ih =>
    obtain ⟨ih0, ih16⟩ := ih
    refine ⟨?_, ?_⟩
    · intro l1 I J F r hr
      rw [ze_X12_weave_0] at hr
      unfold zb_X12_weave_0 at hr
      refine zs_260_0 ?_
      refine And.intro (rfl) (And.intro (rfl) (And.intro (And.intro rfl rfl) (And.intro (rfl) (And.intro (Nat.le_of_ble_eq_true rfl) (And.intro (Nat.le_of_ble_eq_true rfl) ?_)))))
      refine And.intro (Nat.le_of_ble_eq_true rfl) ?_
      obtain ⟨r1, cr1, hr⟩ := Option.bind_eq_some_iff.mp hr
      refine Exists.intro _ (Exists.intro _ (And.intro (zr_X12_layWeaves d N  (zz_u I 52 7 0) J F r1 cr1) ?_))
      refine And.intro (rfl) (And.intro (rfl) (And.intro (And.intro rfl rfl) ?_))
      exact zz_wk [true, true] rfl (ih16 _ _ _ _ _ hr)
    · intro l1 I J F r hr
      rw [ze_X12_weave_16] at hr
      unfold zb_X12_weave_16 at hr
      refine zs_260_16 ?_
      refine And.intro (rfl) (And.intro (Nat.le_of_ble_eq_true rfl) (And.intro (Nat.le_of_ble_eq_true rfl) (And.intro (Nat.le_of_ble_eq_true rfl) ?_)))
      obtain ⟨r2, cr2, hr⟩ := Option.bind_eq_some_iff.mp hr
      refine Exists.intro _ (Exists.intro _ (And.intro (zr_X12_whereBits F I J (d+85) N 0 r2 cr2) ?_))
      refine And.intro (Nat.le_of_ble_eq_true rfl) (And.intro (Nat.le_of_ble_eq_true rfl) (And.intro (Nat.le_of_ble_eq_true rfl) ?_))
      refine Exists.intro _ (Exists.intro _ (And.intro (zr_J6_bitCount F I J (d+85) r2.1) ?_))
      refine And.intro (fun (h1 : (zv_J6_bitCount r2.1) ≤ l1) => ?_) (fun (h1 : ¬ ((zv_J6_bitCount r2.1) ≤ l1)) => ?_)
      · rw [if_pos h1] at hr
        show zz_run _ 260 45 [some (.ref 52), some (.int l1)] [] (zz_S F I J) _ _
        refine zs_260_45 ?_
        refine And.intro (rfl) ?_
        replace hr := Option.some.inj hr
        subst hr
        exact And.intro rfl (And.intro rfl rfl)
      · rw [if_neg h1] at hr
        refine And.intro (rfl) (And.intro (Or.inl rfl) ?_)
        have g3 : ¬ (l1 < 0 ∨ 12 ≤ l1.toNatClampNeg) := zz_g hr
        replace hr := zz_gt hr
        refine And.intro (g3) (And.intro (rfl) (And.intro (Nat.le_of_ble_eq_true rfl) (And.intro (Nat.le_of_ble_eq_true rfl) (And.intro (Nat.le_of_ble_eq_true rfl) ?_))))
        have g4 : ¬ ((I 52 6) < 0 ∨ 20 ≤ (I 52 6).toNatClampNeg) := zz_g hr
        replace hr := zz_gt hr
        refine Exists.intro _ (Exists.intro _ (And.intro (zr_X12_tell F I J (d+85) ((I 66 l1.toNatClampNeg).toInt64) g4) ?_))
        exact zz_wk [true, true] rfl (ih16 _ _ _ _ _ hr)
theorem zr_X12_weave (d N : Nat)  (I : Nat → Nat → Int32) (J : Nat → Nat → Int64) (F : zz_F) (r : Int32 × (Nat → Nat → Int32) × (Nat → Nat → Int64) × zz_F) (h : zf_X12_weave N  I J F = some r) : zz_run (d+86) 260 0 [some (.ref 52), none] [] (zz_S F I J) (some (.int r.1)) (zz_S (r.2.2.2) (r.2.1) (r.2.2.1)) := (zq_X12_weave d N N).1 0 I J F r h
def zb_X12_soonest_0 (N : Nat) (rec : Nat → Int32 → (Nat → Nat → Int32) → (Nat → Nat → Int64) → zz_F → Option (Int32 × (Nat → Nat → Int32) × (Nat → Nat → Int64) × zz_F)) (l1 : Int32) (I : Nat → Nat → Int32) (J : Nat → Nat → Int64) (F : zz_F) : Option (Int32 × (Nat → Nat → Int32) × (Nat → Nat → Int64) × zz_F) := if ¬ (zv_X12_isPlay l1) = 0 then ((zf_X12_whereBits N 0 (zz_u I 52 7 0) J).bind fun r1 => (zf_X12_ofPlay N r1.1 l1 (zz_u I 52 7 0) J).bind fun r2 => if ¬ r2.1 = 0 then ((zf_X12_layWeaves N  (zz_u (zz_u I 52 7 0) 52 6 0) J F).bind fun r3 => (zf_J6_numberOfLeadingZeros N r2.1 r3.2.1 r3.2.2.1).bind fun r4 => if ¬ ((31 - r4.1) < 0 ∨ 12 ≤ (31 - r4.1).toNatClampNeg) then (if ¬ ((r3.2.1 52 6) < 0 ∨ 20 ≤ (r3.2.1 52 6).toNatClampNeg) then ((some (zw_X12_tell r3.2.1 r3.2.2.1 ((((r3.2.1 71 ((31 - r4.1).toNatClampNeg)) - (zv_J6_bitCount r2.1)) + 1).toInt64))).bind fun i7 => some (i7 70 ((31 - r4.1).toNatClampNeg), i7, zx_X12_tell r3.2.1 r3.2.2.1 ((((r3.2.1 71 ((31 - r4.1).toNatClampNeg)) - (zv_J6_bitCount r2.1)) + 1).toInt64), r3.2.2.2)) else none) else none) else (if ¬ (((zz_u (zz_u I 52 7 0) 52 6 0) 52 6) < 0 ∨ 20 ≤ ((zz_u (zz_u I 52 7 0) 52 6 0) 52 6).toNatClampNeg) then (some (0, zw_X12_tell (zz_u (zz_u I 52 7 0) 52 6 0) J 0, zx_X12_tell (zz_u (zz_u I 52 7 0) 52 6 0) J 0, F)) else none)) else (some ((-1), zz_u I 52 7 0, J, F))
def zl_X12_soonest (N : Nat) : Nat → Nat → Int32 → (Nat → Nat → Int32) → (Nat → Nat → Int64) → zz_F → Option (Int32 × (Nat → Nat → Int32) × (Nat → Nat → Int64) × zz_F)
  | 0 => fun _ _ _ _ _ => none
  | n + 1 => fun pc l1 I J F => if pc = 0 then zb_X12_soonest_0 N (zl_X12_soonest N n) l1 I J F else none
theorem ze_X12_soonest_0 (N : Nat) (n : Nat) (l1 : Int32) (I : Nat → Nat → Int32) (J : Nat → Nat → Int64) (F : zz_F) : zl_X12_soonest N (n+1) 0 l1 I J F = zb_X12_soonest_0 N (zl_X12_soonest N n) l1 I J F := by
  show (if 0 = 0 then zb_X12_soonest_0 N (zl_X12_soonest N n) l1 I J F else none) = _
  rw [if_pos rfl]
def zf_X12_soonest (N : Nat) (l1 : Int32) (I : Nat → Nat → Int32) (J : Nat → Nat → Int64) (F : zz_F) : Option (Int32 × (Nat → Nat → Int32) × (Nat → Nat → Int64) × zz_F) := zl_X12_soonest N N 0 l1 I J F
set_option maxHeartbeats 16000000 in
theorem zq_X12_soonest (d N : Nat) : ∀ n : Nat, (∀ (l1 : Int32) (I : Nat → Nat → Int32) (J : Nat → Nat → Int64) (F : zz_F) (r : Int32 × (Nat → Nat → Int32) × (Nat → Nat → Int64) × zz_F), zl_X12_soonest N n 0 l1 I J F = some r → zz_run (d+86) 261 0 [some (.ref 52), some (.int l1), none, none] [] (zz_S F I J) (some (.int r.1)) (zz_S (r.2.2.2) (r.2.1) (r.2.2.1))) := by
  intro n
  induction n with
  | zero => exact fun _ _ _ _ _ h => zz_no h
  | succ n ih =>
    have ih0 := ih
    skip
    · intro l1 I J F r hr
      rw [ze_X12_soonest_0] at hr
      unfold zb_X12_soonest_0 at hr
      refine zs_261_0 ?_
      refine And.intro (rfl) (And.intro (rfl) (And.intro (And.intro rfl rfl) (And.intro (Nat.le_of_ble_eq_true rfl) (And.intro (Nat.le_of_ble_eq_true rfl) (And.intro (Nat.le_of_ble_eq_true rfl) ?_)))))
      refine Exists.intro _ (Exists.intro _ (And.intro (zr_X12_isPlay F (zz_u I 52 7 0) J (d+84) l1) ?_))
      refine And.intro (fun (h1 : ¬ (zv_X12_isPlay l1) = 0) => ?_) (fun (h1 : ¬ (¬ (zv_X12_isPlay l1) = 0)) => ?_)
      · rw [if_pos h1] at hr
        show zz_run _ 261 14 [some (.ref 52), some (.int l1), none, none] [] (zz_S F (zz_u I 52 7 0) J) _ _
        refine zs_261_14 ?_
        refine And.intro (rfl) (And.intro (Nat.le_of_ble_eq_true rfl) (And.intro (Nat.le_of_ble_eq_true rfl) (And.intro (Nat.le_of_ble_eq_true rfl) ?_)))
        obtain ⟨r1, cr1, hr⟩ := Option.bind_eq_some_iff.mp hr
        refine Exists.intro _ (Exists.intro _ (And.intro (zr_X12_whereBits F (zz_u I 52 7 0) J (d+85) N 0 r1 cr1) ?_))
        refine And.intro (rfl) (And.intro (Nat.le_of_ble_eq_true rfl) (And.intro (Nat.le_of_ble_eq_true rfl) (And.intro (Nat.le_of_ble_eq_true rfl) ?_)))
        obtain ⟨r2, cr2, hr⟩ := Option.bind_eq_some_iff.mp hr
        refine Exists.intro _ (Exists.intro _ (And.intro (zr_X12_ofPlay F (zz_u I 52 7 0) J (d+83) N r1.1 l1 r2 cr2) ?_))
        refine And.intro (rfl) (And.intro (rfl) (And.intro (And.intro rfl rfl) (And.intro (fun (h2 : ¬ r2.1 = 0) => ?_) (fun (h2 : ¬ (¬ r2.1 = 0)) => ?_))))
        · rw [if_pos h2] at hr
          show zz_run _ 261 41 [some (.ref 52), some (.int l1), some (.int r2.1), none] [] (zz_S F (zz_u (zz_u I 52 7 0) 52 6 0) J) _ _
          refine zs_261_41 ?_
          refine And.intro (rfl) (And.intro (Nat.le_of_ble_eq_true rfl) (And.intro (Nat.le_of_ble_eq_true rfl) (And.intro (Nat.le_of_ble_eq_true rfl) ?_)))
          obtain ⟨r3, cr3, hr⟩ := Option.bind_eq_some_iff.mp hr
          refine Exists.intro _ (Exists.intro _ (And.intro (zr_X12_layWeaves d N  (zz_u (zz_u I 52 7 0) 52 6 0) J F r3 cr3) ?_))
          refine And.intro (Nat.le_of_ble_eq_true rfl) (And.intro (Nat.le_of_ble_eq_true rfl) (And.intro (Nat.le_of_ble_eq_true rfl) ?_))
          obtain ⟨r4, cr4, hr⟩ := Option.bind_eq_some_iff.mp hr
          refine Exists.intro _ (Exists.intro _ (And.intro (zr_J6_numberOfLeadingZeros r3.2.2.2 r3.2.1 r3.2.2.1 (d+85) N r2.1 r4 cr4) ?_))
          refine And.intro (rfl) (And.intro (Or.inl rfl) ?_)
          have g5 : ¬ ((31 - r4.1) < 0 ∨ 12 ≤ (31 - r4.1).toNatClampNeg) := zz_g hr
          replace hr := zz_gt hr
          refine And.intro (g5) (And.intro (Nat.le_of_ble_eq_true rfl) (And.intro (Nat.le_of_ble_eq_true rfl) (And.intro (Nat.le_of_ble_eq_true rfl) ?_)))
          refine Exists.intro _ (Exists.intro _ (And.intro (zr_J6_bitCount r3.2.2.2 r3.2.1 r3.2.2.1 (d+85) r2.1) ?_))
          refine And.intro (rfl) (And.intro (Nat.le_of_ble_eq_true rfl) (And.intro (Nat.le_of_ble_eq_true rfl) (And.intro (Nat.le_of_ble_eq_true rfl) ?_)))
          have g6 : ¬ ((r3.2.1 52 6) < 0 ∨ 20 ≤ (r3.2.1 52 6).toNatClampNeg) := zz_g hr
          replace hr := zz_gt hr
          obtain ⟨i7, ci7, hr⟩ := Option.bind_eq_some_iff.mp hr
          refine Exists.intro _ (Exists.intro _ (And.intro (zz_bi ci7 (zr_X12_tell r3.2.2.2 r3.2.1 r3.2.2.1 (d+85) ((((r3.2.1 71 ((31 - r4.1).toNatClampNeg)) - (zv_J6_bitCount r2.1)) + 1).toInt64) g6)) ?_))
          refine And.intro (rfl) (And.intro (Or.inl rfl) (And.intro (g5) ?_))
          replace hr := Option.some.inj hr
          subst hr
          exact And.intro rfl (And.intro rfl rfl)
        · rw [if_neg h2] at hr
          refine And.intro (rfl) (And.intro (Nat.le_of_ble_eq_true rfl) (And.intro (Nat.le_of_ble_eq_true rfl) (And.intro (Nat.le_of_ble_eq_true rfl) ?_)))
          have g8 : ¬ (((zz_u (zz_u I 52 7 0) 52 6 0) 52 6) < 0 ∨ 20 ≤ ((zz_u (zz_u I 52 7 0) 52 6 0) 52 6).toNatClampNeg) := zz_g hr
          replace hr := zz_gt hr
          refine Exists.intro _ (Exists.intro _ (And.intro (zr_X12_tell F (zz_u (zz_u I 52 7 0) 52 6 0) J (d+85) 0 g8) ?_))
          replace hr := Option.some.inj hr
          subst hr
          exact And.intro rfl (And.intro rfl rfl)
      · rw [if_neg h1] at hr
        replace hr := Option.some.inj hr
        subst hr
        exact And.intro rfl (And.intro rfl rfl)
theorem zr_X12_soonest (d N : Nat) (l1 : Int32) (I : Nat → Nat → Int32) (J : Nat → Nat → Int64) (F : zz_F) (r : Int32 × (Nat → Nat → Int32) × (Nat → Nat → Int64) × zz_F) (h : zf_X12_soonest N l1 I J F = some r) : zz_run (d+86) 261 0 [some (.ref 52), some (.int l1), none, none] [] (zz_S F I J) (some (.int r.1)) (zz_S (r.2.2.2) (r.2.1) (r.2.2.1)) := (zq_X12_soonest d N N) l1 I J F r h
def zb_X12_both_0 (N : Nat) (rec : Nat → Int32 → Int32 → Int32 → (Nat → Nat → Int32) → (Nat → Nat → Int64) → zz_F → Option (Int32 × (Nat → Nat → Int32) × (Nat → Nat → Int64) × zz_F)) (l1 : Int32) (l2 : Int32) (l3 : Int32) (I : Nat → Nat → Int32) (J : Nat → Nat → Int64) (F : zz_F) : Option (Int32 × (Nat → Nat → Int32) × (Nat → Nat → Int64) × zz_F) := if (zv_X12_in l1 0 199) = 0 then (rec 27 0 0 0 (zz_u I 52 7 0) J F) else (if ¬ (zv_X12_in l2 0 199) = 0 then ((zf_X12_layWeaves N  (zz_u (zz_u (zz_u I 52 7 0) 72 0 l1) 72 1 l2) J F).bind fun r1 => rec 54 0 0 0 (zz_u r1.2.1 52 6 0) r1.2.2.1 r1.2.2.2) else (rec 27 0 0 0 (zz_u I 52 7 0) J F))
def zb_X12_both_27 (N : Nat) (rec : Nat → Int32 → Int32 → Int32 → (Nat → Nat → Int32) → (Nat → Nat → Int64) → zz_F → Option (Int32 × (Nat → Nat → Int32) × (Nat → Nat → Int64) × zz_F)) (l1 : Int32) (l2 : Int32) (l3 : Int32) (I : Nat → Nat → Int32) (J : Nat → Nat → Int64) (F : zz_F) : Option (Int32 × (Nat → Nat → Int32) × (Nat → Nat → Int64) × zz_F) := some ((-1), I, J, F)
def zb_X12_both_54 (N : Nat) (rec : Nat → Int32 → Int32 → Int32 → (Nat → Nat → Int32) → (Nat → Nat → Int64) → zz_F → Option (Int32 × (Nat → Nat → Int32) × (Nat → Nat → Int64) × zz_F)) (l1 : Int32) (l2 : Int32) (l3 : Int32) (I : Nat → Nat → Int32) (J : Nat → Nat → Int64) (F : zz_F) : Option (Int32 × (Nat → Nat → Int32) × (Nat → Nat → Int64) × zz_F) := (zf_X12_whereBits N 0 I J).bind fun r2 => if (zv_J6_bitCount r2.1) ≤ l3 then (rec 90 0 0 0 I J F) else (if (I 52 35) = 0 then (rec 90 0 0 0 I J F) else (if ¬ (l3 < 0 ∨ 12 ≤ l3.toNatClampNeg) then (if ¬ ((I 52 6) < 0 ∨ 20 ≤ (I 52 6).toNatClampNeg) then (rec 54 0 0 (l3 + 1) (zw_X12_tell I J ((I 73 l3.toNatClampNeg).toInt64)) (zx_X12_tell I J ((I 73 l3.toNatClampNeg).toInt64)) F) else none) else none))
def zb_X12_both_90 (N : Nat) (rec : Nat → Int32 → Int32 → Int32 → (Nat → Nat → Int32) → (Nat → Nat → Int64) → zz_F → Option (Int32 × (Nat → Nat → Int32) × (Nat → Nat → Int64) × zz_F)) (l1 : Int32) (l2 : Int32) (l3 : Int32) (I : Nat → Nat → Int32) (J : Nat → Nat → Int64) (F : zz_F) : Option (Int32 × (Nat → Nat → Int32) × (Nat → Nat → Int64) × zz_F) := if (I 52 35) = 0 then (some (0, I, J, F)) else (some (1, I, J, F))
def zl_X12_both (N : Nat) : Nat → Nat → Int32 → Int32 → Int32 → (Nat → Nat → Int32) → (Nat → Nat → Int64) → zz_F → Option (Int32 × (Nat → Nat → Int32) × (Nat → Nat → Int64) × zz_F)
  | 0 => fun _ _ _ _ _ _ _ => none
  | n + 1 => fun pc l1 l2 l3 I J F => if pc = 0 then zb_X12_both_0 N (zl_X12_both N n) l1 l2 l3 I J F else (if pc = 27 then zb_X12_both_27 N (zl_X12_both N n) l1 l2 l3 I J F else (if pc = 54 then zb_X12_both_54 N (zl_X12_both N n) l1 l2 l3 I J F else (if pc = 90 then zb_X12_both_90 N (zl_X12_both N n) l1 l2 l3 I J F else none)))
theorem ze_X12_both_0 (N : Nat) (n : Nat) (l1 : Int32) (l2 : Int32) (l3 : Int32) (I : Nat → Nat → Int32) (J : Nat → Nat → Int64) (F : zz_F) : zl_X12_both N (n+1) 0 l1 l2 l3 I J F = zb_X12_both_0 N (zl_X12_both N n) l1 l2 l3 I J F := by
  show (if 0 = 0 then zb_X12_both_0 N (zl_X12_both N n) l1 l2 l3 I J F else (if 0 = 27 then zb_X12_both_27 N (zl_X12_both N n) l1 l2 l3 I J F else (if 0 = 54 then zb_X12_both_54 N (zl_X12_both N n) l1 l2 l3 I J F else (if 0 = 90 then zb_X12_both_90 N (zl_X12_both N n) l1 l2 l3 I J F else none)))) = _
  rw [if_pos rfl]
theorem ze_X12_both_27 (N : Nat) (n : Nat) (l1 : Int32) (l2 : Int32) (l3 : Int32) (I : Nat → Nat → Int32) (J : Nat → Nat → Int64) (F : zz_F) : zl_X12_both N (n+1) 27 l1 l2 l3 I J F = zb_X12_both_27 N (zl_X12_both N n) l1 l2 l3 I J F := by
  show (if 27 = 0 then zb_X12_both_0 N (zl_X12_both N n) l1 l2 l3 I J F else (if 27 = 27 then zb_X12_both_27 N (zl_X12_both N n) l1 l2 l3 I J F else (if 27 = 54 then zb_X12_both_54 N (zl_X12_both N n) l1 l2 l3 I J F else (if 27 = 90 then zb_X12_both_90 N (zl_X12_both N n) l1 l2 l3 I J F else none)))) = _
  rw [if_neg (by decide), if_pos rfl]
theorem ze_X12_both_54 (N : Nat) (n : Nat) (l1 : Int32) (l2 : Int32) (l3 : Int32) (I : Nat → Nat → Int32) (J : Nat → Nat → Int64) (F : zz_F) : zl_X12_both N (n+1) 54 l1 l2 l3 I J F = zb_X12_both_54 N (zl_X12_both N n) l1 l2 l3 I J F := by
  show (if 54 = 0 then zb_X12_both_0 N (zl_X12_both N n) l1 l2 l3 I J F else (if 54 = 27 then zb_X12_both_27 N (zl_X12_both N n) l1 l2 l3 I J F else (if 54 = 54 then zb_X12_both_54 N (zl_X12_both N n) l1 l2 l3 I J F else (if 54 = 90 then zb_X12_both_90 N (zl_X12_both N n) l1 l2 l3 I J F else none)))) = _
  rw [if_neg (by decide), if_neg (by decide), if_pos rfl]
theorem ze_X12_both_90 (N : Nat) (n : Nat) (l1 : Int32) (l2 : Int32) (l3 : Int32) (I : Nat → Nat → Int32) (J : Nat → Nat → Int64) (F : zz_F) : zl_X12_both N (n+1) 90 l1 l2 l3 I J F = zb_X12_both_90 N (zl_X12_both N n) l1 l2 l3 I J F := by
  show (if 90 = 0 then zb_X12_both_0 N (zl_X12_both N n) l1 l2 l3 I J F else (if 90 = 27 then zb_X12_both_27 N (zl_X12_both N n) l1 l2 l3 I J F else (if 90 = 54 then zb_X12_both_54 N (zl_X12_both N n) l1 l2 l3 I J F else (if 90 = 90 then zb_X12_both_90 N (zl_X12_both N n) l1 l2 l3 I J F else none)))) = _
  rw [if_neg (by decide), if_neg (by decide), if_neg (by decide), if_pos rfl]
def zf_X12_both (N : Nat) (l1 : Int32) (l2 : Int32) (I : Nat → Nat → Int32) (J : Nat → Nat → Int64) (F : zz_F) : Option (Int32 × (Nat → Nat → Int32) × (Nat → Nat → Int64) × zz_F) := zl_X12_both N N 0 l1 l2 0 I J F
set_option maxHeartbeats 16000000 in
theorem zq_X12_both (d N : Nat) : ∀ n : Nat, (∀ (l1 : Int32) (l2 : Int32) (l3 : Int32) (I : Nat → Nat → Int32) (J : Nat → Nat → Int64) (F : zz_F) (r : Int32 × (Nat → Nat → Int32) × (Nat → Nat → Int64) × zz_F), zl_X12_both N n 0 l1 l2 l3 I J F = some r → zz_run (d+86) 262 0 [some (.ref 52), some (.int l1), some (.int l2), none] [] (zz_S F I J) (some (.int r.1)) (zz_S (r.2.2.2) (r.2.1) (r.2.2.1))) ∧ (∀ (l1 : Int32) (l2 : Int32) (l3 : Int32) (I : Nat → Nat → Int32) (J : Nat → Nat → Int64) (F : zz_F) (r : Int32 × (Nat → Nat → Int32) × (Nat → Nat → Int64) × zz_F), zl_X12_both N n 27 l1 l2 l3 I J F = some r → zz_run (d+86) 262 27 [some (.ref 52), none, none, none] [] (zz_S F I J) (some (.int r.1)) (zz_S (r.2.2.2) (r.2.1) (r.2.2.1))) ∧ (∀ (l1 : Int32) (l2 : Int32) (l3 : Int32) (I : Nat → Nat → Int32) (J : Nat → Nat → Int64) (F : zz_F) (r : Int32 × (Nat → Nat → Int32) × (Nat → Nat → Int64) × zz_F), zl_X12_both N n 54 l1 l2 l3 I J F = some r → zz_run (d+86) 262 54 [some (.ref 52), none, none, some (.int l3)] [] (zz_S F I J) (some (.int r.1)) (zz_S (r.2.2.2) (r.2.1) (r.2.2.1))) ∧ (∀ (l1 : Int32) (l2 : Int32) (l3 : Int32) (I : Nat → Nat → Int32) (J : Nat → Nat → Int64) (F : zz_F) (r : Int32 × (Nat → Nat → Int32) × (Nat → Nat → Int64) × zz_F), zl_X12_both N n 90 l1 l2 l3 I J F = some r → zz_run (d+86) 262 90 [some (.ref 52), none, none, none] [] (zz_S F I J) (some (.int r.1)) (zz_S (r.2.2.2) (r.2.1) (r.2.2.1))) := by
  intro n
  induction n with
  | zero => exact ⟨fun _ _ _ _ _ _ _ h => zz_no h, fun _ _ _ _ _ _ _ h => zz_no h, fun _ _ _ _ _ _ _ h => zz_no h, fun _ _ _ _ _ _ _ h => zz_no h⟩
  | succ n ih =>
    obtain ⟨ih0, ih27, ih54, ih90⟩ := ih
    refine ⟨?_, ?_, ?_, ?_⟩
    · intro l1 l2 l3 I J F r hr
      rw [ze_X12_both_0] at hr
      unfold zb_X12_both_0 at hr
      refine zs_262_0 ?_
      refine And.intro (rfl) (And.intro (rfl) (And.intro (And.intro rfl rfl) (And.intro (Nat.le_of_ble_eq_true rfl) (And.intro (Nat.le_of_ble_eq_true rfl) (And.intro (Nat.le_of_ble_eq_true rfl) ?_)))))
      refine Exists.intro _ (Exists.intro _ (And.intro (zr_X12_in F (zz_u I 52 7 0) J (d+85) l1 0 199) ?_))
      refine And.intro (fun (h1 : (zv_X12_in l1 0 199) = 0) => ?_) (fun (h1 : ¬ ((zv_X12_in l1 0 199) = 0)) => ?_)
      · rw [if_pos h1] at hr
        exact zz_wk [true, false, false, false] rfl (ih27 _ _ _ _ _ _ _ hr)
      · rw [if_neg h1] at hr
        refine And.intro (Nat.le_of_ble_eq_true rfl) (And.intro (Nat.le_of_ble_eq_true rfl) (And.intro (Nat.le_of_ble_eq_true rfl) ?_))
        refine Exists.intro _ (Exists.intro _ (And.intro (zr_X12_in F (zz_u I 52 7 0) J (d+85) l2 0 199) ?_))
        refine And.intro (fun (h2 : ¬ (zv_X12_in l2 0 199) = 0) => ?_) (fun (h2 : ¬ (¬ (zv_X12_in l2 0 199) = 0)) => ?_)
        · rw [if_pos h2] at hr
          show zz_run _ 262 29 [some (.ref 52), some (.int l1), some (.int l2), none] [] (zz_S F (zz_u I 52 7 0) J) _ _
          refine zs_262_29 ?_
          refine And.intro (rfl) (And.intro (rfl) (And.intro (zz_vk (k := 0) rfl rfl) (And.intro (rfl) (And.intro (rfl) (And.intro (zz_vk (k := 1) rfl rfl) ?_)))))
          refine And.intro (rfl) (And.intro (Nat.le_of_ble_eq_true rfl) (And.intro (Nat.le_of_ble_eq_true rfl) (And.intro (Nat.le_of_ble_eq_true rfl) ?_)))
          obtain ⟨r1, cr1, hr⟩ := Option.bind_eq_some_iff.mp hr
          refine Exists.intro _ (Exists.intro _ (And.intro (zr_X12_layWeaves d N  (zz_u (zz_u (zz_u I 52 7 0) 72 0 l1) 72 1 l2) J F r1 cr1) ?_))
          refine And.intro (rfl) (And.intro (rfl) (And.intro (And.intro rfl rfl) ?_))
          exact zz_wk [true, false, false, true] rfl (ih54 _ _ _ _ _ _ _ hr)
        · rw [if_neg h2] at hr
          exact zz_wk [true, false, false, false] rfl (ih27 _ _ _ _ _ _ _ hr)
    · intro l1 l2 l3 I J F r hr
      rw [ze_X12_both_27] at hr
      unfold zb_X12_both_27 at hr
      refine zs_262_27 ?_
      replace hr := Option.some.inj hr
      subst hr
      exact And.intro rfl (And.intro rfl rfl)
    · intro l1 l2 l3 I J F r hr
      rw [ze_X12_both_54] at hr
      unfold zb_X12_both_54 at hr
      refine zs_262_54 ?_
      refine And.intro (rfl) (And.intro (Nat.le_of_ble_eq_true rfl) (And.intro (Nat.le_of_ble_eq_true rfl) (And.intro (Nat.le_of_ble_eq_true rfl) ?_)))
      obtain ⟨r2, cr2, hr⟩ := Option.bind_eq_some_iff.mp hr
      refine Exists.intro _ (Exists.intro _ (And.intro (zr_X12_whereBits F I J (d+85) N 0 r2 cr2) ?_))
      refine And.intro (Nat.le_of_ble_eq_true rfl) (And.intro (Nat.le_of_ble_eq_true rfl) (And.intro (Nat.le_of_ble_eq_true rfl) ?_))
      refine Exists.intro _ (Exists.intro _ (And.intro (zr_J6_bitCount F I J (d+85) r2.1) ?_))
      refine And.intro (fun (h3 : (zv_J6_bitCount r2.1) ≤ l3) => ?_) (fun (h3 : ¬ ((zv_J6_bitCount r2.1) ≤ l3)) => ?_)
      · rw [if_pos h3] at hr
        exact zz_wk [true, false, false, false] rfl (ih90 _ _ _ _ _ _ _ hr)
      · rw [if_neg h3] at hr
        refine And.intro (rfl) (And.intro (fun (h4 : (I 52 35) = 0) => ?_) (fun (h4 : ¬ ((I 52 35) = 0)) => ?_))
        · rw [if_pos h4] at hr
          exact zz_wk [true, false, false, false] rfl (ih90 _ _ _ _ _ _ _ hr)
        · rw [if_neg h4] at hr
          refine And.intro (rfl) (And.intro (Or.inl rfl) ?_)
          have g3 : ¬ (l3 < 0 ∨ 12 ≤ l3.toNatClampNeg) := zz_g hr
          replace hr := zz_gt hr
          refine And.intro (g3) (And.intro (rfl) (And.intro (Nat.le_of_ble_eq_true rfl) (And.intro (Nat.le_of_ble_eq_true rfl) (And.intro (Nat.le_of_ble_eq_true rfl) ?_))))
          have g4 : ¬ ((I 52 6) < 0 ∨ 20 ≤ (I 52 6).toNatClampNeg) := zz_g hr
          replace hr := zz_gt hr
          refine Exists.intro _ (Exists.intro _ (And.intro (zr_X12_tell F I J (d+85) ((I 73 l3.toNatClampNeg).toInt64) g4) ?_))
          exact zz_wk [true, false, false, true] rfl (ih54 _ _ _ _ _ _ _ hr)
    · intro l1 l2 l3 I J F r hr
      rw [ze_X12_both_90] at hr
      unfold zb_X12_both_90 at hr
      refine zs_262_90 ?_
      refine And.intro (rfl) (And.intro (fun (h5 : (I 52 35) = 0) => ?_) (fun (h5 : ¬ ((I 52 35) = 0)) => ?_))
      · rw [if_pos h5] at hr
        show zz_run _ 262 101 [some (.ref 52), none, none, none] [] (zz_S F I J) _ _
        refine zs_262_101 ?_
        show zz_run _ 262 102 [some (.ref 52), none, none, none] [.int 0] (zz_S F I J) _ _
        refine zs_262_102 ?_
        replace hr := Option.some.inj hr
        subst hr
        exact And.intro rfl (And.intro rfl rfl)
      · rw [if_neg h5] at hr
        show zz_run _ 262 102 [some (.ref 52), none, none, none] [.int 1] (zz_S F I J) _ _
        refine zs_262_102 ?_
        replace hr := Option.some.inj hr
        subst hr
        exact And.intro rfl (And.intro rfl rfl)
theorem zr_X12_both (d N : Nat) (l1 : Int32) (l2 : Int32) (I : Nat → Nat → Int32) (J : Nat → Nat → Int64) (F : zz_F) (r : Int32 × (Nat → Nat → Int32) × (Nat → Nat → Int64) × zz_F) (h : zf_X12_both N l1 l2 I J F = some r) : zz_run (d+86) 262 0 [some (.ref 52), some (.int l1), some (.int l2), none] [] (zz_S F I J) (some (.int r.1)) (zz_S (r.2.2.2) (r.2.1) (r.2.2.1)) := (zq_X12_both d N N).1 l1 l2 0 I J F r h
def zb_X12_within_0 (N : Nat) (rec : Nat → Int32 → Int32 → (Nat → Nat → Int32) → (Nat → Nat → Int64) → zz_F → Option (Int32 × (Nat → Nat → Int32) × (Nat → Nat → Int64) × zz_F)) (l1 : Int32) (l2 : Int32) (I : Nat → Nat → Int32) (J : Nat → Nat → Int64) (F : zz_F) : Option (Int32 × (Nat → Nat → Int32) × (Nat → Nat → Int64) × zz_F) := if ¬ (zv_X12_in l1 0 199) = 0 then ((zf_X12_layWeaves N  (zz_u I 52 7 0) J F).bind fun r1 => (zf_X12_whereBits N 0 r1.2.1 r1.2.2.1).bind fun r2 => rec 31 l1 (zv_J6_bitCount r2.1) r1.2.1 r1.2.2.1 r1.2.2.2) else (some ((-1), zz_u I 52 7 0, J, F))
def zb_X12_within_31 (N : Nat) (rec : Nat → Int32 → Int32 → (Nat → Nat → Int32) → (Nat → Nat → Int64) → zz_F → Option (Int32 × (Nat → Nat → Int32) × (Nat → Nat → Int64) × zz_F)) (l1 : Int32) (l2 : Int32) (I : Nat → Nat → Int32) (J : Nat → Nat → Int64) (F : zz_F) : Option (Int32 × (Nat → Nat → Int32) × (Nat → Nat → Int64) × zz_F) := if ¬ (l2 < 0 ∨ 13 ≤ l2.toNatClampNeg) then (if (I 68 l2.toNatClampNeg) ≤ l1 then (if ¬ (((zz_u I 52 6 0) 52 6) < 0 ∨ 20 ≤ ((zz_u I 52 6 0) 52 6).toNatClampNeg) then (some (l2, zw_X12_tell (zz_u I 52 6 0) J ((I 68 l2.toNatClampNeg).toInt64), zx_X12_tell (zz_u I 52 6 0) J ((I 68 l2.toNatClampNeg).toInt64), F)) else none) else (rec 31 l1 (l2 + (-1)) I J F)) else none
def zl_X12_within (N : Nat) : Nat → Nat → Int32 → Int32 → (Nat → Nat → Int32) → (Nat → Nat → Int64) → zz_F → Option (Int32 × (Nat → Nat → Int32) × (Nat → Nat → Int64) × zz_F)
  | 0 => fun _ _ _ _ _ _ => none
  | n + 1 => fun pc l1 l2 I J F => if pc = 0 then zb_X12_within_0 N (zl_X12_within N n) l1 l2 I J F else (if pc = 31 then zb_X12_within_31 N (zl_X12_within N n) l1 l2 I J F else none)
theorem ze_X12_within_0 (N : Nat) (n : Nat) (l1 : Int32) (l2 : Int32) (I : Nat → Nat → Int32) (J : Nat → Nat → Int64) (F : zz_F) : zl_X12_within N (n+1) 0 l1 l2 I J F = zb_X12_within_0 N (zl_X12_within N n) l1 l2 I J F := by
  show (if 0 = 0 then zb_X12_within_0 N (zl_X12_within N n) l1 l2 I J F else (if 0 = 31 then zb_X12_within_31 N (zl_X12_within N n) l1 l2 I J F else none)) = _
  rw [if_pos rfl]
theorem ze_X12_within_31 (N : Nat) (n : Nat) (l1 : Int32) (l2 : Int32) (I : Nat → Nat → Int32) (J : Nat → Nat → Int64) (F : zz_F) : zl_X12_within N (n+1) 31 l1 l2 I J F = zb_X12_within_31 N (zl_X12_within N n) l1 l2 I J F := by
  show (if 31 = 0 then zb_X12_within_0 N (zl_X12_within N n) l1 l2 I J F else (if 31 = 31 then zb_X12_within_31 N (zl_X12_within N n) l1 l2 I J F else none)) = _
  rw [if_neg (by decide), if_pos rfl]
def zf_X12_within (N : Nat) (l1 : Int32) (I : Nat → Nat → Int32) (J : Nat → Nat → Int64) (F : zz_F) : Option (Int32 × (Nat → Nat → Int32) × (Nat → Nat → Int64) × zz_F) := zl_X12_within N N 0 l1 0 I J F
set_option maxHeartbeats 16000000 in
theorem zq_X12_within (d N : Nat) : ∀ n : Nat, (∀ (l1 : Int32) (l2 : Int32) (I : Nat → Nat → Int32) (J : Nat → Nat → Int64) (F : zz_F) (r : Int32 × (Nat → Nat → Int32) × (Nat → Nat → Int64) × zz_F), zl_X12_within N n 0 l1 l2 I J F = some r → zz_run (d+86) 263 0 [some (.ref 52), some (.int l1), none] [] (zz_S F I J) (some (.int r.1)) (zz_S (r.2.2.2) (r.2.1) (r.2.2.1))) ∧ (∀ (l1 : Int32) (l2 : Int32) (I : Nat → Nat → Int32) (J : Nat → Nat → Int64) (F : zz_F) (r : Int32 × (Nat → Nat → Int32) × (Nat → Nat → Int64) × zz_F), zl_X12_within N n 31 l1 l2 I J F = some r → zz_run (d+86) 263 31 [some (.ref 52), some (.int l1), some (.int l2)] [] (zz_S F I J) (some (.int r.1)) (zz_S (r.2.2.2) (r.2.1) (r.2.2.1))) := by
  intro n
  induction n with
  | zero => exact ⟨fun _ _ _ _ _ _ h => zz_no h, fun _ _ _ _ _ _ h => zz_no h⟩
  | succ n ih =>
    obtain ⟨ih0, ih31⟩ := ih
    refine ⟨?_, ?_⟩
    · intro l1 l2 I J F r hr
      rw [ze_X12_within_0] at hr
      unfold zb_X12_within_0 at hr
      refine zs_263_0 ?_
      refine And.intro (rfl) (And.intro (rfl) (And.intro (And.intro rfl rfl) (And.intro (Nat.le_of_ble_eq_true rfl) (And.intro (Nat.le_of_ble_eq_true rfl) (And.intro (Nat.le_of_ble_eq_true rfl) ?_)))))
      refine Exists.intro _ (Exists.intro _ (And.intro (zr_X12_in F (zz_u I 52 7 0) J (d+85) l1 0 199) ?_))
      refine And.intro (fun (h1 : ¬ (zv_X12_in l1 0 199) = 0) => ?_) (fun (h1 : ¬ (¬ (zv_X12_in l1 0 199) = 0)) => ?_)
      · rw [if_pos h1] at hr
        show zz_run _ 263 18 [some (.ref 52), some (.int l1), none] [] (zz_S F (zz_u I 52 7 0) J) _ _
        refine zs_263_18 ?_
        refine And.intro (rfl) (And.intro (Nat.le_of_ble_eq_true rfl) (And.intro (Nat.le_of_ble_eq_true rfl) (And.intro (Nat.le_of_ble_eq_true rfl) ?_)))
        obtain ⟨r1, cr1, hr⟩ := Option.bind_eq_some_iff.mp hr
        refine Exists.intro _ (Exists.intro _ (And.intro (zr_X12_layWeaves d N  (zz_u I 52 7 0) J F r1 cr1) ?_))
        refine And.intro (rfl) (And.intro (Nat.le_of_ble_eq_true rfl) (And.intro (Nat.le_of_ble_eq_true rfl) (And.intro (Nat.le_of_ble_eq_true rfl) ?_)))
        obtain ⟨r2, cr2, hr⟩ := Option.bind_eq_some_iff.mp hr
        refine Exists.intro _ (Exists.intro _ (And.intro (zr_X12_whereBits r1.2.2.2 r1.2.1 r1.2.2.1 (d+85) N 0 r2 cr2) ?_))
        refine And.intro (Nat.le_of_ble_eq_true rfl) (And.intro (Nat.le_of_ble_eq_true rfl) (And.intro (Nat.le_of_ble_eq_true rfl) ?_))
        refine Exists.intro _ (Exists.intro _ (And.intro (zr_J6_bitCount r1.2.2.2 r1.2.1 r1.2.2.1 (d+85) r2.1) ?_))
        exact zz_wk [true, true, true] rfl (ih31 _ _ _ _ _ _ hr)
      · rw [if_neg h1] at hr
        replace hr := Option.some.inj hr
        subst hr
        exact And.intro rfl (And.intro rfl rfl)
    · intro l1 l2 I J F r hr
      rw [ze_X12_within_31] at hr
      unfold zb_X12_within_31 at hr
      refine zs_263_31 ?_
      refine And.intro (rfl) (And.intro (Or.inl rfl) ?_)
      have g3 : ¬ (l2 < 0 ∨ 13 ≤ l2.toNatClampNeg) := zz_g hr
      replace hr := zz_gt hr
      refine And.intro (g3) (And.intro (fun (h2 : (I 68 l2.toNatClampNeg) ≤ l1) => ?_) (fun (h2 : ¬ ((I 68 l2.toNatClampNeg) ≤ l1)) => ?_))
      · rw [if_pos h2] at hr
        show zz_run _ 263 47 [some (.ref 52), some (.int l1), some (.int l2)] [] (zz_S F I J) _ _
        refine zs_263_47 ?_
        refine And.intro (rfl) (And.intro (rfl) (And.intro (And.intro rfl rfl) (And.intro (rfl) (And.intro (Or.inl rfl) (And.intro (g3) ?_)))))
        refine And.intro (rfl) (And.intro (Nat.le_of_ble_eq_true rfl) (And.intro (Nat.le_of_ble_eq_true rfl) (And.intro (Nat.le_of_ble_eq_true rfl) ?_)))
        have g4 : ¬ (((zz_u I 52 6 0) 52 6) < 0 ∨ 20 ≤ ((zz_u I 52 6 0) 52 6).toNatClampNeg) := zz_g hr
        replace hr := zz_gt hr
        refine Exists.intro _ (Exists.intro _ (And.intro (zr_X12_tell F (zz_u I 52 6 0) J (d+85) ((I 68 l2.toNatClampNeg).toInt64) g4) ?_))
        replace hr := Option.some.inj hr
        subst hr
        exact And.intro rfl (And.intro rfl rfl)
      · rw [if_neg h2] at hr
        exact zz_wk [true, true, true] rfl (ih31 _ _ _ _ _ _ hr)
theorem zr_X12_within (d N : Nat) (l1 : Int32) (I : Nat → Nat → Int32) (J : Nat → Nat → Int64) (F : zz_F) (r : Int32 × (Nat → Nat → Int32) × (Nat → Nat → Int64) × zz_F) (h : zf_X12_within N l1 I J F = some r) : zz_run (d+86) 263 0 [some (.ref 52), some (.int l1), none] [] (zz_S F I J) (some (.int r.1)) (zz_S (r.2.2.2) (r.2.1) (r.2.2.1)) := (zq_X12_within d N N).1 l1 0 I J F r h
def zb_X12_weaves_0 (N : Nat) (rec : Nat → (Nat → Nat → Int32) → (Nat → Nat → Int64) → zz_F → Option (Int32 × (Nat → Nat → Int32) × (Nat → Nat → Int64) × zz_F))  (I : Nat → Nat → Int32) (J : Nat → Nat → Int64) (F : zz_F) : Option (Int32 × (Nat → Nat → Int32) × (Nat → Nat → Int64) × zz_F) := (zf_X12_layWeaves N  (zz_u I 52 7 0) J F).bind fun r1 => if ¬ (((zz_u r1.2.1 52 6 0) 52 6) < 0 ∨ 20 ≤ ((zz_u r1.2.1 52 6 0) 52 6).toNatClampNeg) then (some ((zw_X12_tell (zz_u r1.2.1 52 6 0) r1.2.2.1 ((r1.2.1 52 30).toInt64)) 52 28, zw_X12_tell (zz_u r1.2.1 52 6 0) r1.2.2.1 ((r1.2.1 52 30).toInt64), zx_X12_tell (zz_u r1.2.1 52 6 0) r1.2.2.1 ((r1.2.1 52 30).toInt64), r1.2.2.2)) else none
def zl_X12_weaves (N : Nat) : Nat → Nat → (Nat → Nat → Int32) → (Nat → Nat → Int64) → zz_F → Option (Int32 × (Nat → Nat → Int32) × (Nat → Nat → Int64) × zz_F)
  | 0 => fun _ _ _ _ => none
  | n + 1 => fun pc  I J F => if pc = 0 then zb_X12_weaves_0 N (zl_X12_weaves N n)  I J F else none
theorem ze_X12_weaves_0 (N : Nat) (n : Nat)  (I : Nat → Nat → Int32) (J : Nat → Nat → Int64) (F : zz_F) : zl_X12_weaves N (n+1) 0  I J F = zb_X12_weaves_0 N (zl_X12_weaves N n)  I J F := by
  show (if 0 = 0 then zb_X12_weaves_0 N (zl_X12_weaves N n)  I J F else none) = _
  rw [if_pos rfl]
def zf_X12_weaves (N : Nat)  (I : Nat → Nat → Int32) (J : Nat → Nat → Int64) (F : zz_F) : Option (Int32 × (Nat → Nat → Int32) × (Nat → Nat → Int64) × zz_F) := zl_X12_weaves N N 0  I J F
set_option maxHeartbeats 16000000 in
theorem zq_X12_weaves (d N : Nat) : ∀ n : Nat, (∀  (I : Nat → Nat → Int32) (J : Nat → Nat → Int64) (F : zz_F) (r : Int32 × (Nat → Nat → Int32) × (Nat → Nat → Int64) × zz_F), zl_X12_weaves N n 0  I J F = some r → zz_run (d+86) 264 0 [some (.ref 52)] [] (zz_S F I J) (some (.int r.1)) (zz_S (r.2.2.2) (r.2.1) (r.2.2.1))) := by
  intro n
  induction n with
  | zero => exact fun _ _ _ _ h => zz_no h
  | succ n ih =>
    have ih0 := ih
    skip
    · intro  I J F r hr
      rw [ze_X12_weaves_0] at hr
      unfold zb_X12_weaves_0 at hr
      refine zs_264_0 ?_
      refine And.intro (rfl) (And.intro (rfl) (And.intro (And.intro rfl rfl) (And.intro (rfl) (And.intro (Nat.le_of_ble_eq_true rfl) (And.intro (Nat.le_of_ble_eq_true rfl) ?_)))))
      refine And.intro (Nat.le_of_ble_eq_true rfl) ?_
      obtain ⟨r1, cr1, hr⟩ := Option.bind_eq_some_iff.mp hr
      refine Exists.intro _ (Exists.intro _ (And.intro (zr_X12_layWeaves d N  (zz_u I 52 7 0) J F r1 cr1) ?_))
      refine And.intro (rfl) (And.intro (rfl) (And.intro (And.intro rfl rfl) (And.intro (rfl) (And.intro (rfl) (And.intro (Nat.le_of_ble_eq_true rfl) ?_)))))
      refine And.intro (Nat.le_of_ble_eq_true rfl) (And.intro (Nat.le_of_ble_eq_true rfl) ?_)
      have g2 : ¬ (((zz_u r1.2.1 52 6 0) 52 6) < 0 ∨ 20 ≤ ((zz_u r1.2.1 52 6 0) 52 6).toNatClampNeg) := zz_g hr
      replace hr := zz_gt hr
      refine Exists.intro _ (Exists.intro _ (And.intro (zr_X12_tell r1.2.2.2 (zz_u r1.2.1 52 6 0) r1.2.2.1 (d+85) ((r1.2.1 52 30).toInt64) g2) ?_))
      refine And.intro (rfl) ?_
      replace hr := Option.some.inj hr
      subst hr
      exact And.intro rfl (And.intro rfl rfl)
theorem zr_X12_weaves (d N : Nat)  (I : Nat → Nat → Int32) (J : Nat → Nat → Int64) (F : zz_F) (r : Int32 × (Nat → Nat → Int32) × (Nat → Nat → Int64) × zz_F) (h : zf_X12_weaves N  I J F = some r) : zz_run (d+86) 264 0 [some (.ref 52)] [] (zz_S F I J) (some (.int r.1)) (zz_S (r.2.2.2) (r.2.1) (r.2.2.1)) := (zq_X12_weaves d N N)  I J F r h
def zb_X12_turn_0 (N : Nat) (rec : Nat → Int32 → (Nat → Nat → Int32) → (Nat → Nat → Int64) → zz_F → Option (Int32 × (Nat → Nat → Int32) × (Nat → Nat → Int64) × zz_F)) (l1 : Int32) (I : Nat → Nat → Int32) (J : Nat → Nat → Int64) (F : zz_F) : Option (Int32 × (Nat → Nat → Int32) × (Nat → Nat → Int64) × zz_F) := if ¬ (zv_X12_isPlay l1) = 0 then ((zf_X12_nextOf__53 N l1 (zz_u I 52 7 0) J).bind fun r1 => if ¬ r1.1 = ((-1)) then ((zf_X12_layWeaves N  (zz_u I 52 7 0) J F).bind fun r2 => if ¬ (l1 < 0 ∨ 2 ≤ l1.toNatClampNeg) then (if ¬ (((zz_u r2.2.1 52 6 0) 52 6) < 0 ∨ 20 ≤ ((zz_u r2.2.1 52 6 0) 52 6).toNatClampNeg) then (some (((zw_X12_tell (zz_u r2.2.1 52 6 0) r2.2.2.1 ((r2.2.1 69 l1.toNatClampNeg).toInt64)) 69 l1.toNatClampNeg) - ((zw_X12_tell (zz_u r2.2.1 52 6 0) r2.2.2.1 ((r2.2.1 69 l1.toNatClampNeg).toInt64)) 52 29), zw_X12_tell (zz_u r2.2.1 52 6 0) r2.2.2.1 ((r2.2.1 69 l1.toNatClampNeg).toInt64), zx_X12_tell (zz_u r2.2.1 52 6 0) r2.2.2.1 ((r2.2.1 69 l1.toNatClampNeg).toInt64), r2.2.2.2)) else none) else none) else (some ((-2), zz_u I 52 7 0, J, F))) else (some ((-1), zz_u I 52 7 0, J, F))
def zl_X12_turn (N : Nat) : Nat → Nat → Int32 → (Nat → Nat → Int32) → (Nat → Nat → Int64) → zz_F → Option (Int32 × (Nat → Nat → Int32) × (Nat → Nat → Int64) × zz_F)
  | 0 => fun _ _ _ _ _ => none
  | n + 1 => fun pc l1 I J F => if pc = 0 then zb_X12_turn_0 N (zl_X12_turn N n) l1 I J F else none
theorem ze_X12_turn_0 (N : Nat) (n : Nat) (l1 : Int32) (I : Nat → Nat → Int32) (J : Nat → Nat → Int64) (F : zz_F) : zl_X12_turn N (n+1) 0 l1 I J F = zb_X12_turn_0 N (zl_X12_turn N n) l1 I J F := by
  show (if 0 = 0 then zb_X12_turn_0 N (zl_X12_turn N n) l1 I J F else none) = _
  rw [if_pos rfl]
def zf_X12_turn (N : Nat) (l1 : Int32) (I : Nat → Nat → Int32) (J : Nat → Nat → Int64) (F : zz_F) : Option (Int32 × (Nat → Nat → Int32) × (Nat → Nat → Int64) × zz_F) := zl_X12_turn N N 0 l1 I J F
set_option maxHeartbeats 16000000 in
theorem zq_X12_turn (d N : Nat) : ∀ n : Nat, (∀ (l1 : Int32) (I : Nat → Nat → Int32) (J : Nat → Nat → Int64) (F : zz_F) (r : Int32 × (Nat → Nat → Int32) × (Nat → Nat → Int64) × zz_F), zl_X12_turn N n 0 l1 I J F = some r → zz_run (d+86) 265 0 [some (.ref 52), some (.int l1)] [] (zz_S F I J) (some (.int r.1)) (zz_S (r.2.2.2) (r.2.1) (r.2.2.1))) := by
  intro n
  induction n with
  | zero => exact fun _ _ _ _ _ h => zz_no h
  | succ n ih =>
    have ih0 := ih
    skip
    · intro l1 I J F r hr
      rw [ze_X12_turn_0] at hr
      unfold zb_X12_turn_0 at hr
      refine zs_265_0 ?_
      refine And.intro (rfl) (And.intro (rfl) (And.intro (And.intro rfl rfl) (And.intro (Nat.le_of_ble_eq_true rfl) (And.intro (Nat.le_of_ble_eq_true rfl) (And.intro (Nat.le_of_ble_eq_true rfl) ?_)))))
      refine Exists.intro _ (Exists.intro _ (And.intro (zr_X12_isPlay F (zz_u I 52 7 0) J (d+84) l1) ?_))
      refine And.intro (fun (h1 : ¬ (zv_X12_isPlay l1) = 0) => ?_) (fun (h1 : ¬ (¬ (zv_X12_isPlay l1) = 0)) => ?_)
      · rw [if_pos h1] at hr
        show zz_run _ 265 14 [some (.ref 52), some (.int l1)] [] (zz_S F (zz_u I 52 7 0) J) _ _
        refine zs_265_14 ?_
        refine And.intro (rfl) (And.intro (rfl) (And.intro (Nat.le_of_ble_eq_true rfl) (And.intro (Nat.le_of_ble_eq_true rfl) (And.intro (Nat.le_of_ble_eq_true rfl) ?_))))
        obtain ⟨r1, cr1, hr⟩ := Option.bind_eq_some_iff.mp hr
        refine Exists.intro _ (Exists.intro _ (And.intro (zr_X12_nextOf__53 F (zz_u I 52 7 0) J (d+83) N l1 r1 cr1) ?_))
        refine And.intro (fun (h2 : ¬ r1.1 = ((-1))) => ?_) (fun (h2 : ¬ (¬ r1.1 = ((-1)))) => ?_)
        · rw [if_pos h2] at hr
          show zz_run _ 265 30 [some (.ref 52), some (.int l1)] [] (zz_S F (zz_u I 52 7 0) J) _ _
          refine zs_265_30 ?_
          refine And.intro (rfl) (And.intro (Nat.le_of_ble_eq_true rfl) (And.intro (Nat.le_of_ble_eq_true rfl) (And.intro (Nat.le_of_ble_eq_true rfl) ?_)))
          obtain ⟨r2, cr2, hr⟩ := Option.bind_eq_some_iff.mp hr
          refine Exists.intro _ (Exists.intro _ (And.intro (zr_X12_layWeaves d N  (zz_u I 52 7 0) J F r2 cr2) ?_))
          refine And.intro (rfl) (And.intro (rfl) (And.intro (And.intro rfl rfl) (And.intro (rfl) (And.intro (Or.inl rfl) ?_))))
          have g3 : ¬ (l1 < 0 ∨ 2 ≤ l1.toNatClampNeg) := zz_g hr
          replace hr := zz_gt hr
          refine And.intro (g3) (And.intro (rfl) (And.intro (Nat.le_of_ble_eq_true rfl) (And.intro (Nat.le_of_ble_eq_true rfl) (And.intro (Nat.le_of_ble_eq_true rfl) ?_))))
          have g4 : ¬ (((zz_u r2.2.1 52 6 0) 52 6) < 0 ∨ 20 ≤ ((zz_u r2.2.1 52 6 0) 52 6).toNatClampNeg) := zz_g hr
          replace hr := zz_gt hr
          refine Exists.intro _ (Exists.intro _ (And.intro (zr_X12_tell r2.2.2.2 (zz_u r2.2.1 52 6 0) r2.2.2.1 (d+85) ((r2.2.1 69 l1.toNatClampNeg).toInt64) g4) ?_))
          refine And.intro (rfl) (And.intro (Or.inl rfl) (And.intro (g3) (And.intro (rfl) ?_)))
          replace hr := Option.some.inj hr
          subst hr
          exact And.intro rfl (And.intro rfl rfl)
        · rw [if_neg h2] at hr
          replace hr := Option.some.inj hr
          subst hr
          exact And.intro rfl (And.intro rfl rfl)
      · rw [if_neg h1] at hr
        replace hr := Option.some.inj hr
        subst hr
        exact And.intro rfl (And.intro rfl rfl)
theorem zr_X12_turn (d N : Nat) (l1 : Int32) (I : Nat → Nat → Int32) (J : Nat → Nat → Int64) (F : zz_F) (r : Int32 × (Nat → Nat → Int32) × (Nat → Nat → Int64) × zz_F) (h : zf_X12_turn N l1 I J F = some r) : zz_run (d+86) 265 0 [some (.ref 52), some (.int l1)] [] (zz_S F I J) (some (.int r.1)) (zz_S (r.2.2.2) (r.2.1) (r.2.2.1)) := (zq_X12_turn d N N) l1 I J F r h
def zb_X12_over_0 (N : Nat) (rec : Nat → Int32 → (Nat → Nat → Int32) → (Nat → Nat → Int64) → zz_F → Option (Int32 × (Nat → Nat → Int32) × (Nat → Nat → Int64) × zz_F)) (l1 : Int32) (I : Nat → Nat → Int32) (J : Nat → Nat → Int64) (F : zz_F) : Option (Int32 × (Nat → Nat → Int32) × (Nat → Nat → Int64) × zz_F) := if ¬ (zv_X12_isScene (zz_u I 52 7 0) l1) = 0 then (if ¬ (l1 < 0 ∨ 18 ≤ l1.toNatClampNeg) then (if (I 53 l1.toNatClampNeg) = 0 then ((zf_X12_layWeaves N  (zz_u I 52 7 0) J F).bind fun r2 => if ¬ (l1 < 0 ∨ 12 ≤ l1.toNatClampNeg) then (if ¬ (((zz_u r2.2.1 52 6 0) 52 6) < 0 ∨ 20 ≤ ((zz_u r2.2.1 52 6 0) 52 6).toNatClampNeg) then (some ((zw_X12_tell (zz_u r2.2.1 52 6 0) r2.2.2.1 ((r2.2.1 71 l1.toNatClampNeg).toInt64)) 70 l1.toNatClampNeg, zw_X12_tell (zz_u r2.2.1 52 6 0) r2.2.2.1 ((r2.2.1 71 l1.toNatClampNeg).toInt64), zx_X12_tell (zz_u r2.2.1 52 6 0) r2.2.2.1 ((r2.2.1 71 l1.toNatClampNeg).toInt64), r2.2.2.2)) else none) else none) else (some ((-2), zz_u I 52 7 0, J, F))) else none) else (some ((-1), zz_u I 52 7 0, J, F))
def zl_X12_over (N : Nat) : Nat → Nat → Int32 → (Nat → Nat → Int32) → (Nat → Nat → Int64) → zz_F → Option (Int32 × (Nat → Nat → Int32) × (Nat → Nat → Int64) × zz_F)
  | 0 => fun _ _ _ _ _ => none
  | n + 1 => fun pc l1 I J F => if pc = 0 then zb_X12_over_0 N (zl_X12_over N n) l1 I J F else none
theorem ze_X12_over_0 (N : Nat) (n : Nat) (l1 : Int32) (I : Nat → Nat → Int32) (J : Nat → Nat → Int64) (F : zz_F) : zl_X12_over N (n+1) 0 l1 I J F = zb_X12_over_0 N (zl_X12_over N n) l1 I J F := by
  show (if 0 = 0 then zb_X12_over_0 N (zl_X12_over N n) l1 I J F else none) = _
  rw [if_pos rfl]
def zf_X12_over (N : Nat) (l1 : Int32) (I : Nat → Nat → Int32) (J : Nat → Nat → Int64) (F : zz_F) : Option (Int32 × (Nat → Nat → Int32) × (Nat → Nat → Int64) × zz_F) := zl_X12_over N N 0 l1 I J F
set_option maxHeartbeats 16000000 in
theorem zq_X12_over (d N : Nat) : ∀ n : Nat, (∀ (l1 : Int32) (I : Nat → Nat → Int32) (J : Nat → Nat → Int64) (F : zz_F) (r : Int32 × (Nat → Nat → Int32) × (Nat → Nat → Int64) × zz_F), zl_X12_over N n 0 l1 I J F = some r → zz_run (d+86) 266 0 [some (.ref 52), some (.int l1)] [] (zz_S F I J) (some (.int r.1)) (zz_S (r.2.2.2) (r.2.1) (r.2.2.1))) := by
  intro n
  induction n with
  | zero => exact fun _ _ _ _ _ h => zz_no h
  | succ n ih =>
    have ih0 := ih
    skip
    · intro l1 I J F r hr
      rw [ze_X12_over_0] at hr
      unfold zb_X12_over_0 at hr
      refine zs_266_0 ?_
      refine And.intro (rfl) (And.intro (rfl) (And.intro (And.intro rfl rfl) (And.intro (rfl) (And.intro (Nat.le_of_ble_eq_true rfl) (And.intro (Nat.le_of_ble_eq_true rfl) ?_)))))
      refine And.intro (Nat.le_of_ble_eq_true rfl) ?_
      refine Exists.intro _ (Exists.intro _ (And.intro (zr_X12_isScene F (zz_u I 52 7 0) J (d+84) l1) ?_))
      refine And.intro (fun (h1 : ¬ (zv_X12_isScene (zz_u I 52 7 0) l1) = 0) => ?_) (fun (h1 : ¬ (¬ (zv_X12_isScene (zz_u I 52 7 0) l1) = 0)) => ?_)
      · rw [if_pos h1] at hr
        show zz_run _ 266 15 [some (.ref 52), some (.int l1)] [] (zz_S F (zz_u I 52 7 0) J) _ _
        refine zs_266_15 ?_
        refine And.intro (rfl) (And.intro (Or.inl rfl) ?_)
        have g1 : ¬ (l1 < 0 ∨ 18 ≤ l1.toNatClampNeg) := zz_g hr
        replace hr := zz_gt hr
        refine And.intro (g1) (And.intro (fun (h2 : (I 53 l1.toNatClampNeg) = 0) => ?_) (fun (h2 : ¬ ((I 53 l1.toNatClampNeg) = 0)) => ?_))
        · rw [if_pos h2] at hr
          show zz_run _ 266 27 [some (.ref 52), some (.int l1)] [] (zz_S F (zz_u I 52 7 0) J) _ _
          refine zs_266_27 ?_
          refine And.intro (rfl) (And.intro (Nat.le_of_ble_eq_true rfl) (And.intro (Nat.le_of_ble_eq_true rfl) (And.intro (Nat.le_of_ble_eq_true rfl) ?_)))
          obtain ⟨r2, cr2, hr⟩ := Option.bind_eq_some_iff.mp hr
          refine Exists.intro _ (Exists.intro _ (And.intro (zr_X12_layWeaves d N  (zz_u I 52 7 0) J F r2 cr2) ?_))
          refine And.intro (rfl) (And.intro (rfl) (And.intro (And.intro rfl rfl) (And.intro (rfl) (And.intro (Or.inl rfl) ?_))))
          have g3 : ¬ (l1 < 0 ∨ 12 ≤ l1.toNatClampNeg) := zz_g hr
          replace hr := zz_gt hr
          refine And.intro (g3) (And.intro (rfl) (And.intro (Nat.le_of_ble_eq_true rfl) (And.intro (Nat.le_of_ble_eq_true rfl) (And.intro (Nat.le_of_ble_eq_true rfl) ?_))))
          have g4 : ¬ (((zz_u r2.2.1 52 6 0) 52 6) < 0 ∨ 20 ≤ ((zz_u r2.2.1 52 6 0) 52 6).toNatClampNeg) := zz_g hr
          replace hr := zz_gt hr
          refine Exists.intro _ (Exists.intro _ (And.intro (zr_X12_tell r2.2.2.2 (zz_u r2.2.1 52 6 0) r2.2.2.1 (d+85) ((r2.2.1 71 l1.toNatClampNeg).toInt64) g4) ?_))
          refine And.intro (rfl) (And.intro (Or.inl rfl) (And.intro (g3) ?_))
          replace hr := Option.some.inj hr
          subst hr
          exact And.intro rfl (And.intro rfl rfl)
        · rw [if_neg h2] at hr
          replace hr := Option.some.inj hr
          subst hr
          exact And.intro rfl (And.intro rfl rfl)
      · rw [if_neg h1] at hr
        replace hr := Option.some.inj hr
        subst hr
        exact And.intro rfl (And.intro rfl rfl)
theorem zr_X12_over (d N : Nat) (l1 : Int32) (I : Nat → Nat → Int32) (J : Nat → Nat → Int64) (F : zz_F) (r : Int32 × (Nat → Nat → Int32) × (Nat → Nat → Int64) × zz_F) (h : zf_X12_over N l1 I J F = some r) : zz_run (d+86) 266 0 [some (.ref 52), some (.int l1)] [] (zz_S F I J) (some (.int r.1)) (zz_S (r.2.2.2) (r.2.1) (r.2.2.1)) := (zq_X12_over d N N) l1 I J F r h
