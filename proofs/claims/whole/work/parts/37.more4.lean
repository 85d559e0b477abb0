/-! printed by wip/whole/loop2.py -/
def zb_X12_number_0 (N : Nat) (rec : Nat → Int32 → Int32 → Int32 → (Nat → Nat → Int32) → (Nat → Nat → Int64) → zz_F → Option (Int32 × (Nat → Nat → Int32) × (Nat → Nat → Int64) × zz_F)) (l1 : Int32) (l2 : Int32) (l3 : Int32) (I : Nat → Nat → Int32) (J : Nat → Nat → Int64) (F : zz_F) : Option (Int32 × (Nat → Nat → Int32) × (Nat → Nat → Int64) × zz_F) := (zf_X12_oneOf N 48 10 I J F).bind fun r1 => rec 11 l1 r1.1 1 r1.2.1 r1.2.2.1 r1.2.2.2
def zb_X12_number_11 (N : Nat) (rec : Nat → Int32 → Int32 → Int32 → (Nat → Nat → Int32) → (Nat → Nat → Int64) → zz_F → Option (Int32 × (Nat → Nat → Int32) × (Nat → Nat → Int64) × zz_F)) (l1 : Int32) (l2 : Int32) (l3 : Int32) (I : Nat → Nat → Int32) (J : Nat → Nat → Int64) (F : zz_F) : Option (Int32 × (Nat → Nat → Int32) × (Nat → Nat → Int64) × zz_F) := if l1 ≤ l3 then (some (l2, I, J, F)) else (if (zv_X12_fine I) = 0 then (some (l2, I, J, F)) else ((zf_X12_here N  I J F).bind fun r2 => if (zv_X12_in r2.1 48 57) = 0 then (some (l2, r2.2.1, r2.2.2.1, r2.2.2.2)) else ((zf_X12_oneOf N 48 10 r2.2.1 r2.2.2.1 r2.2.2.2).bind fun r3 => rec 11 l1 ((10 * l2) + r3.1) (l3 + 1) r3.2.1 r3.2.2.1 r3.2.2.2)))
def zl_X12_number (N : Nat) : Nat → Nat → Int32 → Int32 → Int32 → (Nat → Nat → Int32) → (Nat → Nat → Int64) → zz_F → Option (Int32 × (Nat → Nat → Int32) × (Nat → Nat → Int64) × zz_F)
  | 0 => fun _ _ _ _ _ _ _ => none
  | n + 1 => fun pc l1 l2 l3 I J F => if pc = 0 then zb_X12_number_0 N (zl_X12_number N n) l1 l2 l3 I J F else (if pc = 11 then zb_X12_number_11 N (zl_X12_number N n) l1 l2 l3 I J F else none)
theorem ze_X12_number_0 (N : Nat) (n : Nat) (l1 : Int32) (l2 : Int32) (l3 : Int32) (I : Nat → Nat → Int32) (J : Nat → Nat → Int64) (F : zz_F) : zl_X12_number N (n+1) 0 l1 l2 l3 I J F = zb_X12_number_0 N (zl_X12_number N n) l1 l2 l3 I J F := by
  show (if 0 = 0 then zb_X12_number_0 N (zl_X12_number N n) l1 l2 l3 I J F else (if 0 = 11 then zb_X12_number_11 N (zl_X12_number N n) l1 l2 l3 I J F else none)) = _
  rw [if_pos rfl]
theorem ze_X12_number_11 (N : Nat) (n : Nat) (l1 : Int32) (l2 : Int32) (l3 : Int32) (I : Nat → Nat → Int32) (J : Nat → Nat → Int64) (F : zz_F) : zl_X12_number N (n+1) 11 l1 l2 l3 I J F = zb_X12_number_11 N (zl_X12_number N n) l1 l2 l3 I J F := by
  show (if 11 = 0 then zb_X12_number_0 N (zl_X12_number N n) l1 l2 l3 I J F else (if 11 = 11 then zb_X12_number_11 N (zl_X12_number N n) l1 l2 l3 I J F else none)) = _
  rw [if_neg (by decide), if_pos rfl]
def zf_X12_number (N : Nat) (l1 : Int32) (I : Nat → Nat → Int32) (J : Nat → Nat → Int64) (F : zz_F) : Option (Int32 × (Nat → Nat → Int32) × (Nat → Nat → Int64) × zz_F) := zl_X12_number N N 0 l1 0 0 I J F
theorem zq_X12_number (d N : Nat) : ∀ n : Nat, (∀ (l1 : Int32) (l2 : Int32) (l3 : Int32) (I : Nat → Nat → Int32) (J : Nat → Nat → Int64) (F : zz_F) (r : Int32 × (Nat → Nat → Int32) × (Nat → Nat → Int64) × zz_F), zl_X12_number N n 0 l1 l2 l3 I J F = some r → zz_run (d+3) 219 0 [some (.ref 52), some (.int l1), none, none] [] (zz_S F I J) (some (.int r.1)) (zz_S (r.2.2.2) (r.2.1) (r.2.2.1))) ∧ (∀ (l1 : Int32) (l2 : Int32) (l3 : Int32) (I : Nat → Nat → Int32) (J : Nat → Nat → Int64) (F : zz_F) (r : Int32 × (Nat → Nat → Int32) × (Nat → Nat → Int64) × zz_F), zl_X12_number N n 11 l1 l2 l3 I J F = some r → zz_run (d+3) 219 11 [some (.ref 52), some (.int l1), some (.int l2), some (.int l3)] [] (zz_S F I J) (some (.int r.1)) (zz_S (r.2.2.2) (r.2.1) (r.2.2.1))) := by
  intro n
  induction n with
  | zero => exact ⟨fun _ _ _ _ _ _ _ h => zz_no h, fun _ _ _ _ _ _ _ h => zz_no h⟩
  | succ n ih =>
    obtain ⟨ih0, ih11⟩ := ih
    refine ⟨?_, ?_⟩
    · intro l1 l2 l3 I J F r hr
      rw [ze_X12_number_0] at hr
      unfold zb_X12_number_0 at hr
      refine zs_219_0 ?_
      refine And.intro (rfl) (And.intro (Nat.le_of_ble_eq_true rfl) (And.intro (Nat.le_of_ble_eq_true rfl) (And.intro (Nat.le_of_ble_eq_true rfl) ?_)))
      obtain ⟨r1, cr1, hr⟩ := Option.bind_eq_some_iff.mp hr
      refine Exists.intro _ (Exists.intro _ (And.intro (zr_X12_oneOf d N 48 10 I J F r1 cr1) ?_))
      exact zz_wk [true, true, true, true] rfl (ih11 _ _ _ _ _ _ _ hr)
    · intro l1 l2 l3 I J F r hr
      rw [ze_X12_number_11] at hr
      unfold zb_X12_number_11 at hr
      refine zs_219_11 ?_
      refine And.intro (fun (h1 : l1 ≤ l3) => ?_) (fun (h1 : ¬ (l1 ≤ l3)) => ?_)
      · rw [if_pos h1] at hr
        show zz_run _ 219 57 [some (.ref 52), some (.int l1), some (.int l2), some (.int l3)] [] (zz_S F I J) _ _
        refine zs_219_57 ?_
        replace hr := Option.some.inj hr
        subst hr
        exact And.intro rfl (And.intro rfl rfl)
      · rw [if_neg h1] at hr
        refine And.intro (rfl) (And.intro (Nat.le_of_ble_eq_true rfl) (And.intro (Nat.le_of_ble_eq_true rfl) (And.intro (Nat.le_of_ble_eq_true rfl) ?_)))
        refine Exists.intro _ (Exists.intro _ (And.intro (zr_X12_fine F I J (d+2) ) ?_))
        refine And.intro (fun (h2 : (zv_X12_fine I) = 0) => ?_) (fun (h2 : ¬ ((zv_X12_fine I) = 0)) => ?_)
        · rw [if_pos h2] at hr
          show zz_run _ 219 57 [some (.ref 52), some (.int l1), some (.int l2), some (.int l3)] [] (zz_S F I J) _ _
          refine zs_219_57 ?_
          replace hr := Option.some.inj hr
          subst hr
          exact And.intro rfl (And.intro rfl rfl)
        · rw [if_neg h2] at hr
          refine And.intro (rfl) (And.intro (Nat.le_of_ble_eq_true rfl) (And.intro (Nat.le_of_ble_eq_true rfl) (And.intro (Nat.le_of_ble_eq_true rfl) ?_)))
          obtain ⟨r2, cr2, hr⟩ := Option.bind_eq_some_iff.mp hr
          refine Exists.intro _ (Exists.intro _ (And.intro (zr_X12_here (d+2) N  I J F r2 cr2) ?_))
          refine And.intro (Nat.le_of_ble_eq_true rfl) (And.intro (Nat.le_of_ble_eq_true rfl) (And.intro (Nat.le_of_ble_eq_true rfl) ?_))
          refine Exists.intro _ (Exists.intro _ (And.intro (zr_X12_in r2.2.2.2 r2.2.1 r2.2.2.1 (d+2) r2.1 48 57) ?_))
          refine And.intro (fun (h3 : (zv_X12_in r2.1 48 57) = 0) => ?_) (fun (h3 : ¬ ((zv_X12_in r2.1 48 57) = 0)) => ?_)
          · rw [if_pos h3] at hr
            show zz_run _ 219 57 [some (.ref 52), some (.int l1), some (.int l2), some (.int l3)] [] (zz_S r2.2.2.2 r2.2.1 r2.2.2.1) _ _
            refine zs_219_57 ?_
            replace hr := Option.some.inj hr
            subst hr
            exact And.intro rfl (And.intro rfl rfl)
          · rw [if_neg h3] at hr
            refine And.intro (rfl) (And.intro (Nat.le_of_ble_eq_true rfl) (And.intro (Nat.le_of_ble_eq_true rfl) (And.intro (Nat.le_of_ble_eq_true rfl) ?_)))
            obtain ⟨r3, cr3, hr⟩ := Option.bind_eq_some_iff.mp hr
            refine Exists.intro _ (Exists.intro _ (And.intro (zr_X12_oneOf d N 48 10 r2.2.1 r2.2.2.1 r2.2.2.2 r3 cr3) ?_))
            exact zz_wk [true, true, true, true] rfl (ih11 _ _ _ _ _ _ _ hr)
theorem zr_X12_number (d N : Nat) (l1 : Int32) (I : Nat → Nat → Int32) (J : Nat → Nat → Int64) (F : zz_F) (r : Int32 × (Nat → Nat → Int32) × (Nat → Nat → Int64) × zz_F) (h : zf_X12_number N l1 I J F = some r) : zz_run (d+3) 219 0 [some (.ref 52), some (.int l1), none, none] [] (zz_S F I J) (some (.int r.1)) (zz_S (r.2.2.2) (r.2.1) (r.2.2.1)) := (zq_X12_number d N N).1 l1 0 0 I J F r h
def zb_X12_rising_0 (N : Nat) (rec : Nat → Int32 → Int32 → Int32 → Int32 → (Nat → Nat → Int32) → (Nat → Nat → Int64) → zz_F → Option (Int32 × (Nat → Nat → Int32) × (Nat → Nat → Int64) × zz_F)) (l1 : Int32) (l2 : Int32) (l3 : Int32) (l4 : Int32) (I : Nat → Nat → Int32) (J : Nat → Nat → Int64) (F : zz_F) : Option (Int32 × (Nat → Nat → Int32) × (Nat → Nat → Int64) × zz_F) := rec 5 l1 l2 0 ((-1)) I J F
def zb_X12_rising_5 (N : Nat) (rec : Nat → Int32 → Int32 → Int32 → Int32 → (Nat → Nat → Int32) → (Nat → Nat → Int64) → zz_F → Option (Int32 × (Nat → Nat → Int32) × (Nat → Nat → Int64) × zz_F)) (l1 : Int32) (l2 : Int32) (l3 : Int32) (l4 : Int32) (I : Nat → Nat → Int32) (J : Nat → Nat → Int64) (F : zz_F) : Option (Int32 × (Nat → Nat → Int32) × (Nat → Nat → Int64) × zz_F) := if (zv_X12_fine I) = 0 then (some (l3, I, J, F)) else ((zf_X12_here N  I J F).bind fun r1 => if (zv_X12_in r1.1 l1 ((l1 + l2) - 1)) = 0 then (some (l3, r1.2.1, r1.2.2.1, r1.2.2.2)) else ((zf_X12_here N  r1.2.1 r1.2.2.1 r1.2.2.2).bind fun r2 => if l4 < (r2.1 - l1) then (rec 5 l1 l2 (l3 ||| ((1 : Int32) <<< ((r2.1 - l1) &&& 31))) (r2.1 - l1) (zz_u r2.2.1 52 11 ((r2.2.1 52 11) + 1)) r2.2.2.1 r2.2.2.2) else (rec 5 l1 l2 l3 l4 (zw_X12_fault r2.2.1 (r2.2.1 52 11)) r2.2.2.1 r2.2.2.2)))
def zl_X12_rising (N : Nat) : Nat → Nat → Int32 → Int32 → Int32 → Int32 → (Nat → Nat → Int32) → (Nat → Nat → Int64) → zz_F → Option (Int32 × (Nat → Nat → Int32) × (Nat → Nat → Int64) × zz_F)
  | 0 => fun _ _ _ _ _ _ _ _ => none
  | n + 1 => fun pc l1 l2 l3 l4 I J F => if pc = 0 then zb_X12_rising_0 N (zl_X12_rising N n) l1 l2 l3 l4 I J F else (if pc = 5 then zb_X12_rising_5 N (zl_X12_rising N n) l1 l2 l3 l4 I J F else none)
theorem ze_X12_rising_0 (N : Nat) (n : Nat) (l1 : Int32) (l2 : Int32) (l3 : Int32) (l4 : Int32) (I : Nat → Nat → Int32) (J : Nat → Nat → Int64) (F : zz_F) : zl_X12_rising N (n+1) 0 l1 l2 l3 l4 I J F = zb_X12_rising_0 N (zl_X12_rising N n) l1 l2 l3 l4 I J F := by
  show (if 0 = 0 then zb_X12_rising_0 N (zl_X12_rising N n) l1 l2 l3 l4 I J F else (if 0 = 5 then zb_X12_rising_5 N (zl_X12_rising N n) l1 l2 l3 l4 I J F else none)) = _
  rw [if_pos rfl]
theorem ze_X12_rising_5 (N : Nat) (n : Nat) (l1 : Int32) (l2 : Int32) (l3 : Int32) (l4 : Int32) (I : Nat → Nat → Int32) (J : Nat → Nat → Int64) (F : zz_F) : zl_X12_rising N (n+1) 5 l1 l2 l3 l4 I J F = zb_X12_rising_5 N (zl_X12_rising N n) l1 l2 l3 l4 I J F := by
  show (if 5 = 0 then zb_X12_rising_0 N (zl_X12_rising N n) l1 l2 l3 l4 I J F else (if 5 = 5 then zb_X12_rising_5 N (zl_X12_rising N n) l1 l2 l3 l4 I J F else none)) = _
  rw [if_neg (by decide), if_pos rfl]
def zf_X12_rising (N : Nat) (l1 : Int32) (l2 : Int32) (I : Nat → Nat → Int32) (J : Nat → Nat → Int64) (F : zz_F) : Option (Int32 × (Nat → Nat → Int32) × (Nat → Nat → Int64) × zz_F) := zl_X12_rising N N 0 l1 l2 0 0 I J F
theorem zq_X12_rising (d N : Nat) : ∀ n : Nat, (∀ (l1 : Int32) (l2 : Int32) (l3 : Int32) (l4 : Int32) (I : Nat → Nat → Int32) (J : Nat → Nat → Int64) (F : zz_F) (r : Int32 × (Nat → Nat → Int32) × (Nat → Nat → Int64) × zz_F), zl_X12_rising N n 0 l1 l2 l3 l4 I J F = some r → zz_run (d+2) 220 0 [some (.ref 52), some (.int l1), some (.int l2), none, none, none] [] (zz_S F I J) (some (.int r.1)) (zz_S (r.2.2.2) (r.2.1) (r.2.2.1))) ∧ (∀ (l1 : Int32) (l2 : Int32) (l3 : Int32) (l4 : Int32) (I : Nat → Nat → Int32) (J : Nat → Nat → Int64) (F : zz_F) (r : Int32 × (Nat → Nat → Int32) × (Nat → Nat → Int64) × zz_F), zl_X12_rising N n 5 l1 l2 l3 l4 I J F = some r → zz_run (d+2) 220 5 [some (.ref 52), some (.int l1), some (.int l2), some (.int l3), some (.int l4), none] [] (zz_S F I J) (some (.int r.1)) (zz_S (r.2.2.2) (r.2.1) (r.2.2.1))) := by
  intro n
  induction n with
  | zero => exact ⟨fun _ _ _ _ _ _ _ _ h => zz_no h, fun _ _ _ _ _ _ _ _ h => zz_no h⟩
  | succ n ih =>
    obtain ⟨ih0, ih5⟩ := ih
    refine ⟨?_, ?_⟩
    · intro l1 l2 l3 l4 I J F r hr
      rw [ze_X12_rising_0] at hr
      unfold zb_X12_rising_0 at hr
      refine zs_220_0 ?_
      exact zz_wk [true, true, true, true, true, false] rfl (ih5 _ _ _ _ _ _ _ _ hr)
    · intro l1 l2 l3 l4 I J F r hr
      rw [ze_X12_rising_5] at hr
      unfold zb_X12_rising_5 at hr
      refine zs_220_5 ?_
      refine And.intro (rfl) (And.intro (Nat.le_of_ble_eq_true rfl) (And.intro (Nat.le_of_ble_eq_true rfl) (And.intro (Nat.le_of_ble_eq_true rfl) ?_)))
      refine Exists.intro _ (Exists.intro _ (And.intro (zr_X12_fine F I J (d+1) ) ?_))
      refine And.intro (fun (h1 : (zv_X12_fine I) = 0) => ?_) (fun (h1 : ¬ ((zv_X12_fine I) = 0)) => ?_)
      · rw [if_pos h1] at hr
        show zz_run _ 220 78 [some (.ref 52), some (.int l1), some (.int l2), some (.int l3), some (.int l4), none] [] (zz_S F I J) _ _
        refine zs_220_78 ?_
        replace hr := Option.some.inj hr
        subst hr
        exact And.intro rfl (And.intro rfl rfl)
      · rw [if_neg h1] at hr
        refine And.intro (rfl) (And.intro (Nat.le_of_ble_eq_true rfl) (And.intro (Nat.le_of_ble_eq_true rfl) (And.intro (Nat.le_of_ble_eq_true rfl) ?_)))
        obtain ⟨r1, cr1, hr⟩ := Option.bind_eq_some_iff.mp hr
        refine Exists.intro _ (Exists.intro _ (And.intro (zr_X12_here (d+1) N  I J F r1 cr1) ?_))
        refine And.intro (Nat.le_of_ble_eq_true rfl) (And.intro (Nat.le_of_ble_eq_true rfl) (And.intro (Nat.le_of_ble_eq_true rfl) ?_))
        refine Exists.intro _ (Exists.intro _ (And.intro (zr_X12_in r1.2.2.2 r1.2.1 r1.2.2.1 (d+1) r1.1 l1 ((l1 + l2) - 1)) ?_))
        refine And.intro (fun (h2 : (zv_X12_in r1.1 l1 ((l1 + l2) - 1)) = 0) => ?_) (fun (h2 : ¬ ((zv_X12_in r1.1 l1 ((l1 + l2) - 1)) = 0)) => ?_)
        · rw [if_pos h2] at hr
          show zz_run _ 220 78 [some (.ref 52), some (.int l1), some (.int l2), some (.int l3), some (.int l4), none] [] (zz_S r1.2.2.2 r1.2.1 r1.2.2.1) _ _
          refine zs_220_78 ?_
          replace hr := Option.some.inj hr
          subst hr
          exact And.intro rfl (And.intro rfl rfl)
        · rw [if_neg h2] at hr
          refine And.intro (rfl) (And.intro (Nat.le_of_ble_eq_true rfl) (And.intro (Nat.le_of_ble_eq_true rfl) (And.intro (Nat.le_of_ble_eq_true rfl) ?_)))
          obtain ⟨r2, cr2, hr⟩ := Option.bind_eq_some_iff.mp hr
          refine Exists.intro _ (Exists.intro _ (And.intro (zr_X12_here (d+1) N  r1.2.1 r1.2.2.1 r1.2.2.2 r2 cr2) ?_))
          refine And.intro (fun (h3 : l4 < (r2.1 - l1)) => ?_) (fun (h3 : ¬ (l4 < (r2.1 - l1))) => ?_)
          · rw [if_pos h3] at hr
            show zz_run _ 220 54 [some (.ref 52), some (.int l1), some (.int l2), some (.int l3), some (.int l4), some (.int (r2.1 - l1))] [] (zz_S r2.2.2.2 r2.2.1 r2.2.2.1) _ _
            refine zs_220_54 ?_
            refine And.intro (rfl) (And.intro (rfl) (And.intro (rfl) (And.intro (rfl) (And.intro (And.intro rfl rfl) ?_))))
            show zz_run _ 220 75 [some (.ref 52), some (.int l1), some (.int l2), some (.int (l3 ||| ((1 : Int32) <<< ((r2.1 - l1) &&& 31)))), some (.int (r2.1 - l1)), some (.int (r2.1 - l1))] [] (zz_S r2.2.2.2 (zz_u r2.2.1 52 11 ((r2.2.1 52 11) + 1)) r2.2.2.1) _ _
            refine zs_220_75 ?_
            exact zz_wk [true, true, true, true, true, false] rfl (ih5 _ _ _ _ _ _ _ _ hr)
          · rw [if_neg h3] at hr
            refine And.intro (rfl) (And.intro (rfl) (And.intro (Nat.le_of_ble_eq_true rfl) (And.intro (Nat.le_of_ble_eq_true rfl) (And.intro (Nat.le_of_ble_eq_true rfl) ?_))))
            refine Exists.intro _ (Exists.intro _ (And.intro (zr_X12_fault r2.2.2.2 r2.2.1 r2.2.2.1 d (r2.2.1 52 11)) ?_))
            show zz_run _ 220 75 [some (.ref 52), some (.int l1), some (.int l2), some (.int l3), some (.int l4), some (.int (r2.1 - l1))] [] (zz_S r2.2.2.2 (zw_X12_fault r2.2.1 (r2.2.1 52 11)) r2.2.2.1) _ _
            refine zs_220_75 ?_
            exact zz_wk [true, true, true, true, true, false] rfl (ih5 _ _ _ _ _ _ _ _ hr)
theorem zr_X12_rising (d N : Nat) (l1 : Int32) (l2 : Int32) (I : Nat → Nat → Int32) (J : Nat → Nat → Int64) (F : zz_F) (r : Int32 × (Nat → Nat → Int32) × (Nat → Nat → Int64) × zz_F) (h : zf_X12_rising N l1 l2 I J F = some r) : zz_run (d+2) 220 0 [some (.ref 52), some (.int l1), some (.int l2), none, none, none] [] (zz_S F I J) (some (.int r.1)) (zz_S (r.2.2.2) (r.2.1) (r.2.2.1)) := (zq_X12_rising d N N).1 l1 l2 0 0 I J F r h
def zb_X12_readScene_0 (N : Nat) (rec : Nat → Int32 → (Nat → Nat → Int32) → (Nat → Nat → Int64) → zz_F → Option (Int32 × (Nat → Nat → Int32) × (Nat → Nat → Int64) × zz_F)) (l1 : Int32) (I : Nat → Nat → Int32) (J : Nat → Nat → Int64) (F : zz_F) : Option (Int32 × (Nat → Nat → Int32) × (Nat → Nat → Int64) × zz_F) := (zf_X12_oneOf N 48 2 I J F).bind fun r1 => if ¬ (l1 < 0 ∨ 84 ≤ l1.toNatClampNeg) then ((zf_X12_oneOf N 49 9 (zz_u r1.2.1 57 l1.toNatClampNeg r1.1) r1.2.2.1 r1.2.2.2).bind fun r3 => if ¬ ((l1 + 1) < 0 ∨ 84 ≤ (l1 + 1).toNatClampNeg) then ((zf_X12_rising N 65 6 (zz_u r3.2.1 57 ((l1 + 1).toNatClampNeg) (r3.1 + 1)) r3.2.2.1 r3.2.2.2).bind fun r5 => if ¬ ((l1 + 2) < 0 ∨ 84 ≤ (l1 + 2).toNatClampNeg) then ((zf_X12_rising N 49 4 (zz_u r5.2.1 57 ((l1 + 2).toNatClampNeg) r5.1) r5.2.2.1 r5.2.2.2).bind fun r7 => if ¬ ((l1 + 3) < 0 ∨ 84 ≤ (l1 + 3).toNatClampNeg) then ((zf_X12_passes N 62 (zz_u r7.2.1 57 ((l1 + 3).toNatClampNeg) r7.1) r7.2.2.1 r7.2.2.2).bind fun r9 => if r9.1 = 0 then (if ¬ ((l1 + 4) < 0 ∨ 84 ≤ (l1 + 4).toNatClampNeg) then ((zf_X12_passes N 60 (zz_u r9.2.1 57 ((l1 + 4).toNatClampNeg) ((-1))) r9.2.2.1 r9.2.2.2).bind fun r11 => if r11.1 = 0 then (if ¬ ((l1 + 5) < 0 ∨ 84 ≤ (l1 + 5).toNatClampNeg) then ((zf_X12_need N 61 (zz_u r11.2.1 57 ((l1 + 5).toNatClampNeg) ((-1))) r11.2.2.1 r11.2.2.2).bind fun r13 => (zf_X12_oneOf N 48 10 r13.2.1 r13.2.2.1 r13.2.2.2).bind fun r14 => if ¬ ((l1 + 6) < 0 ∨ 84 ≤ (l1 + 6).toNatClampNeg) then (some (0, zz_u r14.2.1 57 ((l1 + 6).toNatClampNeg) r14.1, r14.2.2.1, r14.2.2.2)) else none) else none) else ((zf_X12_oneOf N 97 8 r11.2.1 r11.2.2.1 r11.2.2.2).bind fun r16 => if ¬ ((l1 + 5) < 0 ∨ 84 ≤ (l1 + 5).toNatClampNeg) then ((zf_X12_need N 61 (zz_u r16.2.1 57 ((l1 + 5).toNatClampNeg) r16.1) r16.2.2.1 r16.2.2.2).bind fun r18 => (zf_X12_oneOf N 48 10 r18.2.1 r18.2.2.1 r18.2.2.2).bind fun r19 => if ¬ ((l1 + 6) < 0 ∨ 84 ≤ (l1 + 6).toNatClampNeg) then (some (0, zz_u r19.2.1 57 ((l1 + 6).toNatClampNeg) r19.1, r19.2.2.1, r19.2.2.2)) else none) else none)) else none) else ((zf_X12_oneOf N 97 8 r9.2.1 r9.2.2.1 r9.2.2.2).bind fun r21 => if ¬ ((l1 + 4) < 0 ∨ 84 ≤ (l1 + 4).toNatClampNeg) then ((zf_X12_passes N 60 (zz_u r21.2.1 57 ((l1 + 4).toNatClampNeg) r21.1) r21.2.2.1 r21.2.2.2).bind fun r23 => if r23.1 = 0 then (if ¬ ((l1 + 5) < 0 ∨ 84 ≤ (l1 + 5).toNatClampNeg) then ((zf_X12_need N 61 (zz_u r23.2.1 57 ((l1 + 5).toNatClampNeg) ((-1))) r23.2.2.1 r23.2.2.2).bind fun r25 => (zf_X12_oneOf N 48 10 r25.2.1 r25.2.2.1 r25.2.2.2).bind fun r26 => if ¬ ((l1 + 6) < 0 ∨ 84 ≤ (l1 + 6).toNatClampNeg) then (some (0, zz_u r26.2.1 57 ((l1 + 6).toNatClampNeg) r26.1, r26.2.2.1, r26.2.2.2)) else none) else none) else ((zf_X12_oneOf N 97 8 r23.2.1 r23.2.2.1 r23.2.2.2).bind fun r28 => if ¬ ((l1 + 5) < 0 ∨ 84 ≤ (l1 + 5).toNatClampNeg) then ((zf_X12_need N 61 (zz_u r28.2.1 57 ((l1 + 5).toNatClampNeg) r28.1) r28.2.2.1 r28.2.2.2).bind fun r30 => (zf_X12_oneOf N 48 10 r30.2.1 r30.2.2.1 r30.2.2.2).bind fun r31 => if ¬ ((l1 + 6) < 0 ∨ 84 ≤ (l1 + 6).toNatClampNeg) then (some (0, zz_u r31.2.1 57 ((l1 + 6).toNatClampNeg) r31.1, r31.2.2.1, r31.2.2.2)) else none) else none)) else none)) else none) else none) else none) else none
def zl_X12_readScene (N : Nat) : Nat → Nat → Int32 → (Nat → Nat → Int32) → (Nat → Nat → Int64) → zz_F → Option (Int32 × (Nat → Nat → Int32) × (Nat → Nat → Int64) × zz_F)
  | 0 => fun _ _ _ _ _ => none
  | n + 1 => fun pc l1 I J F => if pc = 0 then zb_X12_readScene_0 N (zl_X12_readScene N n) l1 I J F else none
theorem ze_X12_readScene_0 (N : Nat) (n : Nat) (l1 : Int32) (I : Nat → Nat → Int32) (J : Nat → Nat → Int64) (F : zz_F) : zl_X12_readScene N (n+1) 0 l1 I J F = zb_X12_readScene_0 N (zl_X12_readScene N n) l1 I J F := by
  show (if 0 = 0 then zb_X12_readScene_0 N (zl_X12_readScene N n) l1 I J F else none) = _
  rw [if_pos rfl]
def zf_X12_readScene (N : Nat) (l1 : Int32) (I : Nat → Nat → Int32) (J : Nat → Nat → Int64) (F : zz_F) : Option (Int32 × (Nat → Nat → Int32) × (Nat → Nat → Int64) × zz_F) := zl_X12_readScene N N 0 l1 I J F
theorem zq_X12_readScene (d N : Nat) : ∀ n : Nat, (∀ (l1 : Int32) (I : Nat → Nat → Int32) (J : Nat → Nat → Int64) (F : zz_F) (r : Int32 × (Nat → Nat → Int32) × (Nat → Nat → Int64) × zz_F), zl_X12_readScene N n 0 l1 I J F = some r → zz_run (d+3) 222 0 [some (.ref 52), some (.int l1)] [] (zz_S F I J) none (zz_S (r.2.2.2) (r.2.1) (r.2.2.1))) := by
  intro n
  induction n with
  | zero => exact fun _ _ _ _ _ h => zz_no h
  | succ n ih =>
    have ih0 := ih
    skip
    · intro l1 I J F r hr
      rw [ze_X12_readScene_0] at hr
      unfold zb_X12_readScene_0 at hr
      refine zs_222_0 ?_
      refine And.intro (rfl) (And.intro (rfl) (And.intro (Nat.le_of_ble_eq_true rfl) (And.intro (Nat.le_of_ble_eq_true rfl) (And.intro (Nat.le_of_ble_eq_true rfl) ?_))))
      obtain ⟨r1, cr1, hr⟩ := Option.bind_eq_some_iff.mp hr
      refine Exists.intro _ (Exists.intro _ (And.intro (zr_X12_oneOf d N 48 2 I J F r1 cr1) ?_))
      refine And.intro (rfl) ?_
      have g2 : ¬ (l1 < 0 ∨ 84 ≤ l1.toNatClampNeg) := zz_g hr
      replace hr := zz_gt hr
      refine And.intro (g2) (And.intro (rfl) (And.intro (rfl) (And.intro (Nat.le_of_ble_eq_true rfl) (And.intro (Nat.le_of_ble_eq_true rfl) (And.intro (Nat.le_of_ble_eq_true rfl) ?_)))))
      obtain ⟨r3, cr3, hr⟩ := Option.bind_eq_some_iff.mp hr
      refine Exists.intro _ (Exists.intro _ (And.intro (zr_X12_oneOf d N 49 9 (zz_u r1.2.1 57 l1.toNatClampNeg r1.1) r1.2.2.1 r1.2.2.2 r3 cr3) ?_))
      refine And.intro (rfl) ?_
      have g4 : ¬ ((l1 + 1) < 0 ∨ 84 ≤ (l1 + 1).toNatClampNeg) := zz_g hr
      replace hr := zz_gt hr
      refine And.intro (g4) (And.intro (rfl) (And.intro (rfl) (And.intro (Nat.le_of_ble_eq_true rfl) (And.intro (Nat.le_of_ble_eq_true rfl) (And.intro (Nat.le_of_ble_eq_true rfl) ?_)))))
      obtain ⟨r5, cr5, hr⟩ := Option.bind_eq_some_iff.mp hr
      refine Exists.intro _ (Exists.intro _ (And.intro (zr_X12_rising d N 65 6 (zz_u r3.2.1 57 ((l1 + 1).toNatClampNeg) (r3.1 + 1)) r3.2.2.1 r3.2.2.2 r5 cr5) ?_))
      refine And.intro (rfl) ?_
      have g6 : ¬ ((l1 + 2) < 0 ∨ 84 ≤ (l1 + 2).toNatClampNeg) := zz_g hr
      replace hr := zz_gt hr
      refine And.intro (g6) (And.intro (rfl) (And.intro (rfl) (And.intro (Nat.le_of_ble_eq_true rfl) (And.intro (Nat.le_of_ble_eq_true rfl) (And.intro (Nat.le_of_ble_eq_true rfl) ?_)))))
      obtain ⟨r7, cr7, hr⟩ := Option.bind_eq_some_iff.mp hr
      refine Exists.intro _ (Exists.intro _ (And.intro (zr_X12_rising d N 49 4 (zz_u r5.2.1 57 ((l1 + 2).toNatClampNeg) r5.1) r5.2.2.1 r5.2.2.2 r7 cr7) ?_))
      refine And.intro (rfl) ?_
      have g8 : ¬ ((l1 + 3) < 0 ∨ 84 ≤ (l1 + 3).toNatClampNeg) := zz_g hr
      replace hr := zz_gt hr
      refine And.intro (g8) (And.intro (rfl) (And.intro (rfl) (And.intro (Nat.le_of_ble_eq_true rfl) (And.intro (Nat.le_of_ble_eq_true rfl) (And.intro (Nat.le_of_ble_eq_true rfl) ?_)))))
      obtain ⟨r9, cr9, hr⟩ := Option.bind_eq_some_iff.mp hr
      refine Exists.intro _ (Exists.intro _ (And.intro (zr_X12_passes (d+1) N 62 (zz_u r7.2.1 57 ((l1 + 3).toNatClampNeg) r7.1) r7.2.2.1 r7.2.2.2 r9 cr9) ?_))
      refine And.intro (fun (h1 : r9.1 = 0) => ?_) (fun (h1 : ¬ (r9.1 = 0)) => ?_)
      · rw [if_pos h1] at hr
        show zz_run _ 222 89 [some (.ref 52), some (.int l1)] [.int (l1 + 4), .ref 57] (zz_S r9.2.2.2 r9.2.1 r9.2.2.1) _ _
        refine zs_222_89 ?_
        show zz_run _ 222 90 [some (.ref 52), some (.int l1)] [.int ((-1)), .int (l1 + 4), .ref 57] (zz_S r9.2.2.2 r9.2.1 r9.2.2.1) _ _
        refine zs_222_90 ?_
        refine And.intro (rfl) ?_
        have g10 : ¬ ((l1 + 4) < 0 ∨ 84 ≤ (l1 + 4).toNatClampNeg) := zz_g hr
        replace hr := zz_gt hr
        refine And.intro (g10) (And.intro (rfl) (And.intro (rfl) (And.intro (Nat.le_of_ble_eq_true rfl) (And.intro (Nat.le_of_ble_eq_true rfl) (And.intro (Nat.le_of_ble_eq_true rfl) ?_)))))
        obtain ⟨r11, cr11, hr⟩ := Option.bind_eq_some_iff.mp hr
        refine Exists.intro _ (Exists.intro _ (And.intro (zr_X12_passes (d+1) N 60 (zz_u r9.2.1 57 ((l1 + 4).toNatClampNeg) ((-1))) r9.2.2.1 r9.2.2.2 r11 cr11) ?_))
        refine And.intro (fun (h2 : r11.1 = 0) => ?_) (fun (h2 : ¬ (r11.1 = 0)) => ?_)
        · rw [if_pos h2] at hr
          show zz_run _ 222 118 [some (.ref 52), some (.int l1)] [.int (l1 + 5), .ref 57] (zz_S r11.2.2.2 r11.2.1 r11.2.2.1) _ _
          refine zs_222_118 ?_
          show zz_run _ 222 119 [some (.ref 52), some (.int l1)] [.int ((-1)), .int (l1 + 5), .ref 57] (zz_S r11.2.2.2 r11.2.1 r11.2.2.1) _ _
          refine zs_222_119 ?_
          refine And.intro (rfl) ?_
          have g12 : ¬ ((l1 + 5) < 0 ∨ 84 ≤ (l1 + 5).toNatClampNeg) := zz_g hr
          replace hr := zz_gt hr
          refine And.intro (g12) (And.intro (rfl) (And.intro (Nat.le_of_ble_eq_true rfl) (And.intro (Nat.le_of_ble_eq_true rfl) (And.intro (Nat.le_of_ble_eq_true rfl) ?_))))
          obtain ⟨r13, cr13, hr⟩ := Option.bind_eq_some_iff.mp hr
          refine Exists.intro _ (Exists.intro _ (And.intro (zr_X12_need d N 61 (zz_u r11.2.1 57 ((l1 + 5).toNatClampNeg) ((-1))) r11.2.2.1 r11.2.2.2 r13 cr13) ?_))
          refine And.intro (rfl) (And.intro (rfl) (And.intro (Nat.le_of_ble_eq_true rfl) (And.intro (Nat.le_of_ble_eq_true rfl) (And.intro (Nat.le_of_ble_eq_true rfl) ?_))))
          obtain ⟨r14, cr14, hr⟩ := Option.bind_eq_some_iff.mp hr
          refine Exists.intro _ (Exists.intro _ (And.intro (zr_X12_oneOf d N 48 10 r13.2.1 r13.2.2.1 r13.2.2.2 r14 cr14) ?_))
          refine And.intro (rfl) ?_
          have g15 : ¬ ((l1 + 6) < 0 ∨ 84 ≤ (l1 + 6).toNatClampNeg) := zz_g hr
          replace hr := zz_gt hr
          refine And.intro (g15) ?_
          replace hr := Option.some.inj hr
          subst hr
          exact And.intro rfl (And.intro rfl rfl)
        · rw [if_neg h2] at hr
          refine And.intro (rfl) (And.intro (Nat.le_of_ble_eq_true rfl) (And.intro (Nat.le_of_ble_eq_true rfl) (And.intro (Nat.le_of_ble_eq_true rfl) ?_)))
          obtain ⟨r16, cr16, hr⟩ := Option.bind_eq_some_iff.mp hr
          refine Exists.intro _ (Exists.intro _ (And.intro (zr_X12_oneOf d N 97 8 r11.2.1 r11.2.2.1 r11.2.2.2 r16 cr16) ?_))
          show zz_run _ 222 119 [some (.ref 52), some (.int l1)] [.int r16.1, .int (l1 + 5), .ref 57] (zz_S r16.2.2.2 r16.2.1 r16.2.2.1) _ _
          refine zs_222_119 ?_
          refine And.intro (rfl) ?_
          have g17 : ¬ ((l1 + 5) < 0 ∨ 84 ≤ (l1 + 5).toNatClampNeg) := zz_g hr
          replace hr := zz_gt hr
          refine And.intro (g17) (And.intro (rfl) (And.intro (Nat.le_of_ble_eq_true rfl) (And.intro (Nat.le_of_ble_eq_true rfl) (And.intro (Nat.le_of_ble_eq_true rfl) ?_))))
          obtain ⟨r18, cr18, hr⟩ := Option.bind_eq_some_iff.mp hr
          refine Exists.intro _ (Exists.intro _ (And.intro (zr_X12_need d N 61 (zz_u r16.2.1 57 ((l1 + 5).toNatClampNeg) r16.1) r16.2.2.1 r16.2.2.2 r18 cr18) ?_))
          refine And.intro (rfl) (And.intro (rfl) (And.intro (Nat.le_of_ble_eq_true rfl) (And.intro (Nat.le_of_ble_eq_true rfl) (And.intro (Nat.le_of_ble_eq_true rfl) ?_))))
          obtain ⟨r19, cr19, hr⟩ := Option.bind_eq_some_iff.mp hr
          refine Exists.intro _ (Exists.intro _ (And.intro (zr_X12_oneOf d N 48 10 r18.2.1 r18.2.2.1 r18.2.2.2 r19 cr19) ?_))
          refine And.intro (rfl) ?_
          have g20 : ¬ ((l1 + 6) < 0 ∨ 84 ≤ (l1 + 6).toNatClampNeg) := zz_g hr
          replace hr := zz_gt hr
          refine And.intro (g20) ?_
          replace hr := Option.some.inj hr
          subst hr
          exact And.intro rfl (And.intro rfl rfl)
      · rw [if_neg h1] at hr
        refine And.intro (rfl) (And.intro (Nat.le_of_ble_eq_true rfl) (And.intro (Nat.le_of_ble_eq_true rfl) (And.intro (Nat.le_of_ble_eq_true rfl) ?_)))
        obtain ⟨r21, cr21, hr⟩ := Option.bind_eq_some_iff.mp hr
        refine Exists.intro _ (Exists.intro _ (And.intro (zr_X12_oneOf d N 97 8 r9.2.1 r9.2.2.1 r9.2.2.2 r21 cr21) ?_))
        show zz_run _ 222 90 [some (.ref 52), some (.int l1)] [.int r21.1, .int (l1 + 4), .ref 57] (zz_S r21.2.2.2 r21.2.1 r21.2.2.1) _ _
        refine zs_222_90 ?_
        refine And.intro (rfl) ?_
        have g22 : ¬ ((l1 + 4) < 0 ∨ 84 ≤ (l1 + 4).toNatClampNeg) := zz_g hr
        replace hr := zz_gt hr
        refine And.intro (g22) (And.intro (rfl) (And.intro (rfl) (And.intro (Nat.le_of_ble_eq_true rfl) (And.intro (Nat.le_of_ble_eq_true rfl) (And.intro (Nat.le_of_ble_eq_true rfl) ?_)))))
        obtain ⟨r23, cr23, hr⟩ := Option.bind_eq_some_iff.mp hr
        refine Exists.intro _ (Exists.intro _ (And.intro (zr_X12_passes (d+1) N 60 (zz_u r21.2.1 57 ((l1 + 4).toNatClampNeg) r21.1) r21.2.2.1 r21.2.2.2 r23 cr23) ?_))
        refine And.intro (fun (h3 : r23.1 = 0) => ?_) (fun (h3 : ¬ (r23.1 = 0)) => ?_)
        · rw [if_pos h3] at hr
          show zz_run _ 222 118 [some (.ref 52), some (.int l1)] [.int (l1 + 5), .ref 57] (zz_S r23.2.2.2 r23.2.1 r23.2.2.1) _ _
          refine zs_222_118 ?_
          show zz_run _ 222 119 [some (.ref 52), some (.int l1)] [.int ((-1)), .int (l1 + 5), .ref 57] (zz_S r23.2.2.2 r23.2.1 r23.2.2.1) _ _
          refine zs_222_119 ?_
          refine And.intro (rfl) ?_
          have g24 : ¬ ((l1 + 5) < 0 ∨ 84 ≤ (l1 + 5).toNatClampNeg) := zz_g hr
          replace hr := zz_gt hr
          refine And.intro (g24) (And.intro (rfl) (And.intro (Nat.le_of_ble_eq_true rfl) (And.intro (Nat.le_of_ble_eq_true rfl) (And.intro (Nat.le_of_ble_eq_true rfl) ?_))))
          obtain ⟨r25, cr25, hr⟩ := Option.bind_eq_some_iff.mp hr
          refine Exists.intro _ (Exists.intro _ (And.intro (zr_X12_need d N 61 (zz_u r23.2.1 57 ((l1 + 5).toNatClampNeg) ((-1))) r23.2.2.1 r23.2.2.2 r25 cr25) ?_))
          refine And.intro (rfl) (And.intro (rfl) (And.intro (Nat.le_of_ble_eq_true rfl) (And.intro (Nat.le_of_ble_eq_true rfl) (And.intro (Nat.le_of_ble_eq_true rfl) ?_))))
          obtain ⟨r26, cr26, hr⟩ := Option.bind_eq_some_iff.mp hr
          refine Exists.intro _ (Exists.intro _ (And.intro (zr_X12_oneOf d N 48 10 r25.2.1 r25.2.2.1 r25.2.2.2 r26 cr26) ?_))
          refine And.intro (rfl) ?_
          have g27 : ¬ ((l1 + 6) < 0 ∨ 84 ≤ (l1 + 6).toNatClampNeg) := zz_g hr
          replace hr := zz_gt hr
          refine And.intro (g27) ?_
          replace hr := Option.some.inj hr
          subst hr
          exact And.intro rfl (And.intro rfl rfl)
        · rw [if_neg h3] at hr
          refine And.intro (rfl) (And.intro (Nat.le_of_ble_eq_true rfl) (And.intro (Nat.le_of_ble_eq_true rfl) (And.intro (Nat.le_of_ble_eq_true rfl) ?_)))
          obtain ⟨r28, cr28, hr⟩ := Option.bind_eq_some_iff.mp hr
          refine Exists.intro _ (Exists.intro _ (And.intro (zr_X12_oneOf d N 97 8 r23.2.1 r23.2.2.1 r23.2.2.2 r28 cr28) ?_))
          show zz_run _ 222 119 [some (.ref 52), some (.int l1)] [.int r28.1, .int (l1 + 5), .ref 57] (zz_S r28.2.2.2 r28.2.1 r28.2.2.1) _ _
          refine zs_222_119 ?_
          refine And.intro (rfl) ?_
          have g29 : ¬ ((l1 + 5) < 0 ∨ 84 ≤ (l1 + 5).toNatClampNeg) := zz_g hr
          replace hr := zz_gt hr
          refine And.intro (g29) (And.intro (rfl) (And.intro (Nat.le_of_ble_eq_true rfl) (And.intro (Nat.le_of_ble_eq_true rfl) (And.intro (Nat.le_of_ble_eq_true rfl) ?_))))
          obtain ⟨r30, cr30, hr⟩ := Option.bind_eq_some_iff.mp hr
          refine Exists.intro _ (Exists.intro _ (And.intro (zr_X12_need d N 61 (zz_u r28.2.1 57 ((l1 + 5).toNatClampNeg) r28.1) r28.2.2.1 r28.2.2.2 r30 cr30) ?_))
          refine And.intro (rfl) (And.intro (rfl) (And.intro (Nat.le_of_ble_eq_true rfl) (And.intro (Nat.le_of_ble_eq_true rfl) (And.intro (Nat.le_of_ble_eq_true rfl) ?_))))
          obtain ⟨r31, cr31, hr⟩ := Option.bind_eq_some_iff.mp hr
          refine Exists.intro _ (Exists.intro _ (And.intro (zr_X12_oneOf d N 48 10 r30.2.1 r30.2.2.1 r30.2.2.2 r31 cr31) ?_))
          refine And.intro (rfl) ?_
          have g32 : ¬ ((l1 + 6) < 0 ∨ 84 ≤ (l1 + 6).toNatClampNeg) := zz_g hr
          replace hr := zz_gt hr
          refine And.intro (g32) ?_
          replace hr := Option.some.inj hr
          subst hr
          exact And.intro rfl (And.intro rfl rfl)
theorem zr_X12_readScene (d N : Nat) (l1 : Int32) (I : Nat → Nat → Int32) (J : Nat → Nat → Int64) (F : zz_F) (r : Int32 × (Nat → Nat → Int32) × (Nat → Nat → Int64) × zz_F) (h : zf_X12_readScene N l1 I J F = some r) : zz_run (d+3) 222 0 [some (.ref 52), some (.int l1)] [] (zz_S F I J) none (zz_S (r.2.2.2) (r.2.1) (r.2.2.1)) := (zq_X12_readScene d N N) l1 I J F r h
def zb_X12_scenes_0 (N : Nat) (rec : Nat → Int32 → Int32 → Int32 → (Nat → Nat → Int32) → (Nat → Nat → Int64) → zz_F → Option (Int32 × (Nat → Nat → Int32) × (Nat → Nat → Int64) × zz_F)) (l1 : Int32) (l2 : Int32) (l3 : Int32) (I : Nat → Nat → Int32) (J : Nat → Nat → Int64) (F : zz_F) : Option (Int32 × (Nat → Nat → Int32) × (Nat → Nat → Int64) × zz_F) := (zf_X12_beginText N 76 (zz_u I 52 7 0) J F).bind fun r1 => if ¬ (r1.2.1 52 9) = 0 then (rec 24 0 1 0 r1.2.1 r1.2.2.1 r1.2.2.2) else (some (0, r1.2.1, r1.2.2.1, r1.2.2.2))
def zb_X12_scenes_24 (N : Nat) (rec : Nat → Int32 → Int32 → Int32 → (Nat → Nat → Int32) → (Nat → Nat → Int64) → zz_F → Option (Int32 × (Nat → Nat → Int32) × (Nat → Nat → Int64) × zz_F)) (l1 : Int32) (l2 : Int32) (l3 : Int32) (I : Nat → Nat → Int32) (J : Nat → Nat → Int64) (F : zz_F) : Option (Int32 × (Nat → Nat → Int32) × (Nat → Nat → Int64) × zz_F) := if l2 = 0 then (rec 78 l1 0 0 I J F) else (if (zv_X12_fine I) = 0 then (rec 78 l1 0 0 I J F) else (if ¬ ((I 52 1) + l1) = 12 then ((zf_X12_readScene N (7 * l1) I J F).bind fun r2 => rec 65 l1 0 0 r2.2.1 r2.2.2.1 r2.2.2.2) else (rec 65 l1 0 0 (zw_X12_fault I (I 52 11)) J F)))
def zb_X12_scenes_65 (N : Nat) (rec : Nat → Int32 → Int32 → Int32 → (Nat → Nat → Int32) → (Nat → Nat → Int64) → zz_F → Option (Int32 × (Nat → Nat → Int32) × (Nat → Nat → Int64) × zz_F)) (l1 : Int32) (l2 : Int32) (l3 : Int32) (I : Nat → Nat → Int32) (J : Nat → Nat → Int64) (F : zz_F) : Option (Int32 × (Nat → Nat → Int32) × (Nat → Nat → Int64) × zz_F) := (zf_X12_passes N 59 I J F).bind fun r3 => rec 24 (l1 + 1) r3.1 0 r3.2.1 r3.2.2.1 r3.2.2.2
def zb_X12_scenes_78 (N : Nat) (rec : Nat → Int32 → Int32 → Int32 → (Nat → Nat → Int32) → (Nat → Nat → Int64) → zz_F → Option (Int32 × (Nat → Nat → Int32) × (Nat → Nat → Int64) × zz_F)) (l1 : Int32) (l2 : Int32) (l3 : Int32) (I : Nat → Nat → Int32) (J : Nat → Nat → Int64) (F : zz_F) : Option (Int32 × (Nat → Nat → Int32) × (Nat → Nat → Int64) × zz_F) := if ¬ (zv_X12_wasRight I) = 0 then (rec 94 l1 0 0 (zw_X12_wasRight I) J F) else (some (((-1)) - ((zw_X12_wasRight I) 52 12), zw_X12_wasRight I, J, F))
def zb_X12_scenes_94 (N : Nat) (rec : Nat → Int32 → Int32 → Int32 → (Nat → Nat → Int32) → (Nat → Nat → Int64) → zz_F → Option (Int32 × (Nat → Nat → Int32) × (Nat → Nat → Int64) × zz_F)) (l1 : Int32) (l2 : Int32) (l3 : Int32) (I : Nat → Nat → Int32) (J : Nat → Nat → Int64) (F : zz_F) : Option (Int32 × (Nat → Nat → Int32) × (Nat → Nat → Int64) × zz_F) := if (7 * l1) ≤ l3 then (rec 130 l1 0 0 I J F) else (if ¬ (l3 < 0 ∨ 84 ≤ l3.toNatClampNeg) then (if ¬ (((7 * (I 52 1)) + l3) < 0 ∨ 84 ≤ ((7 * (I 52 1)) + l3).toNatClampNeg) then (rec 94 l1 0 (l3 + 1) (zz_u I 54 (((7 * (I 52 1)) + l3).toNatClampNeg) (I 57 l3.toNatClampNeg)) J F) else none) else none)
def zb_X12_scenes_130 (N : Nat) (rec : Nat → Int32 → Int32 → Int32 → (Nat → Nat → Int32) → (Nat → Nat → Int64) → zz_F → Option (Int32 × (Nat → Nat → Int32) × (Nat → Nat → Int64) × zz_F)) (l1 : Int32) (l2 : Int32) (l3 : Int32) (I : Nat → Nat → Int32) (J : Nat → Nat → Int64) (F : zz_F) : Option (Int32 × (Nat → Nat → Int32) × (Nat → Nat → Int64) × zz_F) := if l1 ≤ l3 then (some (l1, zz_u (zz_u I 52 20 0) 52 45 ((I 52 45) + 1), J, F)) else (if ¬ ((I 52 1) < 0 ∨ 18 ≤ (I 52 1).toNatClampNeg) then (rec 130 l1 0 (l3 + 1) (zz_u (zz_u I 53 ((I 52 1).toNatClampNeg) 0) 52 1 ((I 52 1) + 1)) J F) else none)
def zl_X12_scenes (N : Nat) : Nat → Nat → Int32 → Int32 → Int32 → (Nat → Nat → Int32) → (Nat → Nat → Int64) → zz_F → Option (Int32 × (Nat → Nat → Int32) × (Nat → Nat → Int64) × zz_F)
  | 0 => fun _ _ _ _ _ _ _ => none
  | n + 1 => fun pc l1 l2 l3 I J F => if pc = 0 then zb_X12_scenes_0 N (zl_X12_scenes N n) l1 l2 l3 I J F else (if pc = 24 then zb_X12_scenes_24 N (zl_X12_scenes N n) l1 l2 l3 I J F else (if pc = 65 then zb_X12_scenes_65 N (zl_X12_scenes N n) l1 l2 l3 I J F else (if pc = 78 then zb_X12_scenes_78 N (zl_X12_scenes N n) l1 l2 l3 I J F else (if pc = 94 then zb_X12_scenes_94 N (zl_X12_scenes N n) l1 l2 l3 I J F else (if pc = 130 then zb_X12_scenes_130 N (zl_X12_scenes N n) l1 l2 l3 I J F else none)))))
theorem ze_X12_scenes_0 (N : Nat) (n : Nat) (l1 : Int32) (l2 : Int32) (l3 : Int32) (I : Nat → Nat → Int32) (J : Nat → Nat → Int64) (F : zz_F) : zl_X12_scenes N (n+1) 0 l1 l2 l3 I J F = zb_X12_scenes_0 N (zl_X12_scenes N n) l1 l2 l3 I J F := by
  show (if 0 = 0 then zb_X12_scenes_0 N (zl_X12_scenes N n) l1 l2 l3 I J F else (if 0 = 24 then zb_X12_scenes_24 N (zl_X12_scenes N n) l1 l2 l3 I J F else (if 0 = 65 then zb_X12_scenes_65 N (zl_X12_scenes N n) l1 l2 l3 I J F else (if 0 = 78 then zb_X12_scenes_78 N (zl_X12_scenes N n) l1 l2 l3 I J F else (if 0 = 94 then zb_X12_scenes_94 N (zl_X12_scenes N n) l1 l2 l3 I J F else (if 0 = 130 then zb_X12_scenes_130 N (zl_X12_scenes N n) l1 l2 l3 I J F else none)))))) = _
  rw [if_pos rfl]
theorem ze_X12_scenes_24 (N : Nat) (n : Nat) (l1 : Int32) (l2 : Int32) (l3 : Int32) (I : Nat → Nat → Int32) (J : Nat → Nat → Int64) (F : zz_F) : zl_X12_scenes N (n+1) 24 l1 l2 l3 I J F = zb_X12_scenes_24 N (zl_X12_scenes N n) l1 l2 l3 I J F := by
  show (if 24 = 0 then zb_X12_scenes_0 N (zl_X12_scenes N n) l1 l2 l3 I J F else (if 24 = 24 then zb_X12_scenes_24 N (zl_X12_scenes N n) l1 l2 l3 I J F else (if 24 = 65 then zb_X12_scenes_65 N (zl_X12_scenes N n) l1 l2 l3 I J F else (if 24 = 78 then zb_X12_scenes_78 N (zl_X12_scenes N n) l1 l2 l3 I J F else (if 24 = 94 then zb_X12_scenes_94 N (zl_X12_scenes N n) l1 l2 l3 I J F else (if 24 = 130 then zb_X12_scenes_130 N (zl_X12_scenes N n) l1 l2 l3 I J F else none)))))) = _
  rw [if_neg (by decide), if_pos rfl]
theorem ze_X12_scenes_65 (N : Nat) (n : Nat) (l1 : Int32) (l2 : Int32) (l3 : Int32) (I : Nat → Nat → Int32) (J : Nat → Nat → Int64) (F : zz_F) : zl_X12_scenes N (n+1) 65 l1 l2 l3 I J F = zb_X12_scenes_65 N (zl_X12_scenes N n) l1 l2 l3 I J F := by
  show (if 65 = 0 then zb_X12_scenes_0 N (zl_X12_scenes N n) l1 l2 l3 I J F else (if 65 = 24 then zb_X12_scenes_24 N (zl_X12_scenes N n) l1 l2 l3 I J F else (if 65 = 65 then zb_X12_scenes_65 N (zl_X12_scenes N n) l1 l2 l3 I J F else (if 65 = 78 then zb_X12_scenes_78 N (zl_X12_scenes N n) l1 l2 l3 I J F else (if 65 = 94 then zb_X12_scenes_94 N (zl_X12_scenes N n) l1 l2 l3 I J F else (if 65 = 130 then zb_X12_scenes_130 N (zl_X12_scenes N n) l1 l2 l3 I J F else none)))))) = _
  rw [if_neg (by decide), if_neg (by decide), if_pos rfl]
theorem ze_X12_scenes_78 (N : Nat) (n : Nat) (l1 : Int32) (l2 : Int32) (l3 : Int32) (I : Nat → Nat → Int32) (J : Nat → Nat → Int64) (F : zz_F) : zl_X12_scenes N (n+1) 78 l1 l2 l3 I J F = zb_X12_scenes_78 N (zl_X12_scenes N n) l1 l2 l3 I J F := by
  show (if 78 = 0 then zb_X12_scenes_0 N (zl_X12_scenes N n) l1 l2 l3 I J F else (if 78 = 24 then zb_X12_scenes_24 N (zl_X12_scenes N n) l1 l2 l3 I J F else (if 78 = 65 then zb_X12_scenes_65 N (zl_X12_scenes N n) l1 l2 l3 I J F else (if 78 = 78 then zb_X12_scenes_78 N (zl_X12_scenes N n) l1 l2 l3 I J F else (if 78 = 94 then zb_X12_scenes_94 N (zl_X12_scenes N n) l1 l2 l3 I J F else (if 78 = 130 then zb_X12_scenes_130 N (zl_X12_scenes N n) l1 l2 l3 I J F else none)))))) = _
  rw [if_neg (by decide), if_neg (by decide), if_neg (by decide), if_pos rfl]
theorem ze_X12_scenes_94 (N : Nat) (n : Nat) (l1 : Int32) (l2 : Int32) (l3 : Int32) (I : Nat → Nat → Int32) (J : Nat → Nat → Int64) (F : zz_F) : zl_X12_scenes N (n+1) 94 l1 l2 l3 I J F = zb_X12_scenes_94 N (zl_X12_scenes N n) l1 l2 l3 I J F := by
  show (if 94 = 0 then zb_X12_scenes_0 N (zl_X12_scenes N n) l1 l2 l3 I J F else (if 94 = 24 then zb_X12_scenes_24 N (zl_X12_scenes N n) l1 l2 l3 I J F else (if 94 = 65 then zb_X12_scenes_65 N (zl_X12_scenes N n) l1 l2 l3 I J F else (if 94 = 78 then zb_X12_scenes_78 N (zl_X12_scenes N n) l1 l2 l3 I J F else (if 94 = 94 then zb_X12_scenes_94 N (zl_X12_scenes N n) l1 l2 l3 I J F else (if 94 = 130 then zb_X12_scenes_130 N (zl_X12_scenes N n) l1 l2 l3 I J F else none)))))) = _
  rw [if_neg (by decide), if_neg (by decide), if_neg (by decide), if_neg (by decide), if_pos rfl]
theorem ze_X12_scenes_130 (N : Nat) (n : Nat) (l1 : Int32) (l2 : Int32) (l3 : Int32) (I : Nat → Nat → Int32) (J : Nat → Nat → Int64) (F : zz_F) : zl_X12_scenes N (n+1) 130 l1 l2 l3 I J F = zb_X12_scenes_130 N (zl_X12_scenes N n) l1 l2 l3 I J F := by
  show (if 130 = 0 then zb_X12_scenes_0 N (zl_X12_scenes N n) l1 l2 l3 I J F else (if 130 = 24 then zb_X12_scenes_24 N (zl_X12_scenes N n) l1 l2 l3 I J F else (if 130 = 65 then zb_X12_scenes_65 N (zl_X12_scenes N n) l1 l2 l3 I J F else (if 130 = 78 then zb_X12_scenes_78 N (zl_X12_scenes N n) l1 l2 l3 I J F else (if 130 = 94 then zb_X12_scenes_94 N (zl_X12_scenes N n) l1 l2 l3 I J F else (if 130 = 130 then zb_X12_scenes_130 N (zl_X12_scenes N n) l1 l2 l3 I J F else none)))))) = _
  rw [if_neg (by decide), if_neg (by decide), if_neg (by decide), if_neg (by decide), if_neg (by decide), if_pos rfl]
def zf_X12_scenes (N : Nat)  (I : Nat → Nat → Int32) (J : Nat → Nat → Int64) (F : zz_F) : Option (Int32 × (Nat → Nat → Int32) × (Nat → Nat → Int64) × zz_F) := zl_X12_scenes N N 0 0 0 0 I J F
theorem zq_X12_scenes (d N : Nat) : ∀ n : Nat, (∀ (l1 : Int32) (l2 : Int32) (l3 : Int32) (I : Nat → Nat → Int32) (J : Nat → Nat → Int64) (F : zz_F) (r : Int32 × (Nat → Nat → Int32) × (Nat → Nat → Int64) × zz_F), zl_X12_scenes N n 0 l1 l2 l3 I J F = some r → zz_run (d+4) 223 0 [some (.ref 52), none, none, none] [] (zz_S F I J) (some (.int r.1)) (zz_S (r.2.2.2) (r.2.1) (r.2.2.1))) ∧ (∀ (l1 : Int32) (l2 : Int32) (l3 : Int32) (I : Nat → Nat → Int32) (J : Nat → Nat → Int64) (F : zz_F) (r : Int32 × (Nat → Nat → Int32) × (Nat → Nat → Int64) × zz_F), zl_X12_scenes N n 24 l1 l2 l3 I J F = some r → zz_run (d+4) 223 24 [some (.ref 52), some (.int l1), some (.int l2), none] [] (zz_S F I J) (some (.int r.1)) (zz_S (r.2.2.2) (r.2.1) (r.2.2.1))) ∧ (∀ (l1 : Int32) (l2 : Int32) (l3 : Int32) (I : Nat → Nat → Int32) (J : Nat → Nat → Int64) (F : zz_F) (r : Int32 × (Nat → Nat → Int32) × (Nat → Nat → Int64) × zz_F), zl_X12_scenes N n 65 l1 l2 l3 I J F = some r → zz_run (d+4) 223 65 [some (.ref 52), some (.int l1), none, none] [] (zz_S F I J) (some (.int r.1)) (zz_S (r.2.2.2) (r.2.1) (r.2.2.1))) ∧ (∀ (l1 : Int32) (l2 : Int32) (l3 : Int32) (I : Nat → Nat → Int32) (J : Nat → Nat → Int64) (F : zz_F) (r : Int32 × (Nat → Nat → Int32) × (Nat → Nat → Int64) × zz_F), zl_X12_scenes N n 78 l1 l2 l3 I J F = some r → zz_run (d+4) 223 78 [some (.ref 52), some (.int l1), none, none] [] (zz_S F I J) (some (.int r.1)) (zz_S (r.2.2.2) (r.2.1) (r.2.2.1))) ∧ (∀ (l1 : Int32) (l2 : Int32) (l3 : Int32) (I : Nat → Nat → Int32) (J : Nat → Nat → Int64) (F : zz_F) (r : Int32 × (Nat → Nat → Int32) × (Nat → Nat → Int64) × zz_F), zl_X12_scenes N n 94 l1 l2 l3 I J F = some r → zz_run (d+4) 223 94 [some (.ref 52), some (.int l1), none, some (.int l3)] [] (zz_S F I J) (some (.int r.1)) (zz_S (r.2.2.2) (r.2.1) (r.2.2.1))) ∧ (∀ (l1 : Int32) (l2 : Int32) (l3 : Int32) (I : Nat → Nat → Int32) (J : Nat → Nat → Int64) (F : zz_F) (r : Int32 × (Nat → Nat → Int32) × (Nat → Nat → Int64) × zz_F), zl_X12_scenes N n 130 l1 l2 l3 I J F = some r → zz_run (d+4) 223 130 [some (.ref 52), some (.int l1), none, some (.int l3)] [] (zz_S F I J) (some (.int r.1)) (zz_S (r.2.2.2) (r.2.1) (r.2.2.1))) := by
  intro n
  induction n with
  | zero => exact ⟨fun _ _ _ _ _ _ _ h => zz_no h, fun _ _ _ _ _ _ _ h => zz_no h, fun _ _ _ _ _ _ _ h => zz_no h, fun _ _ _ _ _ _ _ h => zz_no h, fun _ _ _ _ _ _ _ h => zz_no h, fun _ _ _ _ _ _ _ h => zz_no h⟩
  | succ n ih =>
    obtain ⟨ih0, ih24, ih65, ih78, ih94, ih130⟩ := ih
    refine ⟨?_, ?_, ?_, ?_, ?_, ?_⟩
    · intro l1 l2 l3 I J F r hr
      rw [ze_X12_scenes_0] at hr
      unfold zb_X12_scenes_0 at hr
      refine zs_223_0 ?_
      refine And.intro (rfl) (And.intro (rfl) (And.intro (And.intro rfl rfl) (And.intro (rfl) (And.intro (Nat.le_of_ble_eq_true rfl) (And.intro (Nat.le_of_ble_eq_true rfl) ?_)))))
      refine And.intro (Nat.le_of_ble_eq_true rfl) ?_
      obtain ⟨r1, cr1, hr⟩ := Option.bind_eq_some_iff.mp hr
      refine Exists.intro _ (Exists.intro _ (And.intro (zr_X12_beginText (d+2) N 76 (zz_u I 52 7 0) J F r1 cr1) ?_))
      refine And.intro (rfl) (And.intro (fun (h1 : ¬ (r1.2.1 52 9) = 0) => ?_) (fun (h1 : ¬ (¬ (r1.2.1 52 9) = 0)) => ?_))
      · rw [if_pos h1] at hr
        show zz_run _ 223 20 [some (.ref 52), none, none, none] [] (zz_S r1.2.2.2 r1.2.1 r1.2.2.1) _ _
        refine zs_223_20 ?_
        exact zz_wk [true, true, true, false] rfl (ih24 _ _ _ _ _ _ _ hr)
      · rw [if_neg h1] at hr
        replace hr := Option.some.inj hr
        subst hr
        exact And.intro rfl (And.intro rfl rfl)
    · intro l1 l2 l3 I J F r hr
      rw [ze_X12_scenes_24] at hr
      unfold zb_X12_scenes_24 at hr
      refine zs_223_24 ?_
      refine And.intro (fun (h2 : l2 = 0) => ?_) (fun (h2 : ¬ (l2 = 0)) => ?_)
      · rw [if_pos h2] at hr
        exact zz_wk [true, true, false, false] rfl (ih78 _ _ _ _ _ _ _ hr)
      · rw [if_neg h2] at hr
        refine And.intro (rfl) (And.intro (Nat.le_of_ble_eq_true rfl) (And.intro (Nat.le_of_ble_eq_true rfl) (And.intro (Nat.le_of_ble_eq_true rfl) ?_)))
        refine Exists.intro _ (Exists.intro _ (And.intro (zr_X12_fine F I J (d+3) ) ?_))
        refine And.intro (fun (h3 : (zv_X12_fine I) = 0) => ?_) (fun (h3 : ¬ ((zv_X12_fine I) = 0)) => ?_)
        · rw [if_pos h3] at hr
          exact zz_wk [true, true, false, false] rfl (ih78 _ _ _ _ _ _ _ hr)
        · rw [if_neg h3] at hr
          refine And.intro (rfl) (And.intro (fun (h4 : ¬ ((I 52 1) + l1) = 12) => ?_) (fun (h4 : ¬ (¬ ((I 52 1) + l1) = 12)) => ?_))
          · rw [if_pos h4] at hr
            show zz_run _ 223 57 [some (.ref 52), some (.int l1), some (.int l2), none] [] (zz_S F I J) _ _
            refine zs_223_57 ?_
            refine And.intro (rfl) (And.intro (Nat.le_of_ble_eq_true rfl) (And.intro (Nat.le_of_ble_eq_true rfl) (And.intro (Nat.le_of_ble_eq_true rfl) ?_)))
            obtain ⟨r2, cr2, hr⟩ := Option.bind_eq_some_iff.mp hr
            refine Exists.intro _ (Exists.intro _ (And.intro (zr_X12_readScene d N (7 * l1) I J F r2 cr2) ?_))
            exact zz_wk [true, true, false, false] rfl (ih65 _ _ _ _ _ _ _ hr)
          · rw [if_neg h4] at hr
            refine And.intro (rfl) (And.intro (rfl) (And.intro (Nat.le_of_ble_eq_true rfl) (And.intro (Nat.le_of_ble_eq_true rfl) (And.intro (Nat.le_of_ble_eq_true rfl) ?_))))
            refine Exists.intro _ (Exists.intro _ (And.intro (zr_X12_fault F I J (d+2) (I 52 11)) ?_))
            exact zz_wk [true, true, false, false] rfl (ih65 _ _ _ _ _ _ _ hr)
    · intro l1 l2 l3 I J F r hr
      rw [ze_X12_scenes_65] at hr
      unfold zb_X12_scenes_65 at hr
      refine zs_223_65 ?_
      refine And.intro (rfl) (And.intro (Nat.le_of_ble_eq_true rfl) (And.intro (Nat.le_of_ble_eq_true rfl) (And.intro (Nat.le_of_ble_eq_true rfl) ?_)))
      obtain ⟨r3, cr3, hr⟩ := Option.bind_eq_some_iff.mp hr
      refine Exists.intro _ (Exists.intro _ (And.intro (zr_X12_passes (d+2) N 59 I J F r3 cr3) ?_))
      exact zz_wk [true, true, true, false] rfl (ih24 _ _ _ _ _ _ _ hr)
    · intro l1 l2 l3 I J F r hr
      rw [ze_X12_scenes_78] at hr
      unfold zb_X12_scenes_78 at hr
      refine zs_223_78 ?_
      refine And.intro (rfl) (And.intro (Nat.le_of_ble_eq_true rfl) (And.intro (Nat.le_of_ble_eq_true rfl) (And.intro (Nat.le_of_ble_eq_true rfl) ?_)))
      refine Exists.intro _ (Exists.intro _ (And.intro (zr_X12_wasRight F I J (d+1) ) ?_))
      refine And.intro (fun (h5 : ¬ (zv_X12_wasRight I) = 0) => ?_) (fun (h5 : ¬ (¬ (zv_X12_wasRight I) = 0)) => ?_)
      · rw [if_pos h5] at hr
        show zz_run _ 223 92 [some (.ref 52), some (.int l1), none, none] [] (zz_S F (zw_X12_wasRight I) J) _ _
        refine zs_223_92 ?_
        exact zz_wk [true, true, false, true] rfl (ih94 _ _ _ _ _ _ _ hr)
      · rw [if_neg h5] at hr
        refine And.intro (rfl) ?_
        replace hr := Option.some.inj hr
        subst hr
        exact And.intro rfl (And.intro rfl rfl)
    · intro l1 l2 l3 I J F r hr
      rw [ze_X12_scenes_94] at hr
      unfold zb_X12_scenes_94 at hr
      refine zs_223_94 ?_
      refine And.intro (fun (h6 : (7 * l1) ≤ l3) => ?_) (fun (h6 : ¬ ((7 * l1) ≤ l3)) => ?_)
      · rw [if_pos h6] at hr
        show zz_run _ 223 128 [some (.ref 52), some (.int l1), none, some (.int l3)] [] (zz_S F I J) _ _
        refine zs_223_128 ?_
        exact zz_wk [true, true, false, true] rfl (ih130 _ _ _ _ _ _ _ hr)
      · rw [if_neg h6] at hr
        refine And.intro (rfl) (And.intro (rfl) (And.intro (rfl) (And.intro (Or.inl rfl) ?_)))
        have g4 : ¬ (l3 < 0 ∨ 84 ≤ l3.toNatClampNeg) := zz_g hr
        replace hr := zz_gt hr
        refine And.intro (g4) (And.intro (rfl) ?_)
        have g5 : ¬ (((7 * (I 52 1)) + l3) < 0 ∨ 84 ≤ ((7 * (I 52 1)) + l3).toNatClampNeg) := zz_g hr
        replace hr := zz_gt hr
        refine And.intro (g5) ?_
        exact zz_wk [true, true, false, true] rfl (ih94 _ _ _ _ _ _ _ hr)
    · intro l1 l2 l3 I J F r hr
      rw [ze_X12_scenes_130] at hr
      unfold zb_X12_scenes_130 at hr
      refine zs_223_130 ?_
      refine And.intro (fun (h7 : l1 ≤ l3) => ?_) (fun (h7 : ¬ (l1 ≤ l3)) => ?_)
      · rw [if_pos h7] at hr
        show zz_run _ 223 161 [some (.ref 52), some (.int l1), none, some (.int l3)] [] (zz_S F I J) _ _
        refine zs_223_161 ?_
        refine And.intro (rfl) (And.intro (rfl) (And.intro (And.intro rfl rfl) (And.intro (rfl) (And.intro (rfl) (And.intro (rfl) ?_)))))
        refine And.intro (rfl) (And.intro (And.intro rfl rfl) ?_)
        replace hr := Option.some.inj hr
        subst hr
        exact And.intro rfl (And.intro rfl rfl)
      · rw [if_neg h7] at hr
        refine And.intro (rfl) (And.intro (rfl) (And.intro (rfl) ?_))
        have g6 : ¬ ((I 52 1) < 0 ∨ 18 ≤ (I 52 1).toNatClampNeg) := zz_g hr
        replace hr := zz_gt hr
        refine And.intro (g6) (And.intro (rfl) (And.intro (rfl) (And.intro (rfl) (And.intro (rfl) (And.intro (And.intro rfl rfl) ?_)))))
        exact zz_wk [true, true, false, true] rfl (ih130 _ _ _ _ _ _ _ hr)
theorem zr_X12_scenes (d N : Nat)  (I : Nat → Nat → Int32) (J : Nat → Nat → Int64) (F : zz_F) (r : Int32 × (Nat → Nat → Int32) × (Nat → Nat → Int64) × zz_F) (h : zf_X12_scenes N  I J F = some r) : zz_run (d+4) 223 0 [some (.ref 52), none, none, none] [] (zz_S F I J) (some (.int r.1)) (zz_S (r.2.2.2) (r.2.1) (r.2.2.1)) := (zq_X12_scenes d N N).1 0 0 0 I J F r h
def zb_X12_nextOf__53_0 (N : Nat) (rec : Nat → Int32 → Int32 → (Nat → Nat → Int32) → (Nat → Nat → Int64) → Option (Int32 × (Nat → Nat → Int32) × (Nat → Nat → Int64))) (l2 : Int32) (l3 : Int32) (I : Nat → Nat → Int32) (J : Nat → Nat → Int64) : Option (Int32 × (Nat → Nat → Int32) × (Nat → Nat → Int64)) := rec 2 l2 0 I J
def zb_X12_nextOf__53_2 (N : Nat) (rec : Nat → Int32 → Int32 → (Nat → Nat → Int32) → (Nat → Nat → Int64) → Option (Int32 × (Nat → Nat → Int32) × (Nat → Nat → Int64))) (l2 : Int32) (l3 : Int32) (I : Nat → Nat → Int32) (J : Nat → Nat → Int64) : Option (Int32 × (Nat → Nat → Int32) × (Nat → Nat → Int64)) := if (I 52 1) ≤ l3 then (some ((-1), I, J)) else (if ¬ (l3 < 0 ∨ 18 ≤ l3.toNatClampNeg) then (if ¬ (I 53 l3.toNatClampNeg) = 0 then (rec 2 l2 (l3 + 1) I J) else (if ¬ (((7 * l3) + 0) < 0 ∨ 84 ≤ ((7 * l3) + 0).toNatClampNeg) then (if ¬ (zv_X12_playOf I l3) = l2 then (rec 2 l2 (l3 + 1) I J) else (some (l3, I, J))) else none)) else none)
def zl_X12_nextOf__53 (N : Nat) : Nat → Nat → Int32 → Int32 → (Nat → Nat → Int32) → (Nat → Nat → Int64) → Option (Int32 × (Nat → Nat → Int32) × (Nat → Nat → Int64))
  | 0 => fun _ _ _ _ _ => none
  | n + 1 => fun pc l2 l3 I J => if pc = 0 then zb_X12_nextOf__53_0 N (zl_X12_nextOf__53 N n) l2 l3 I J else (if pc = 2 then zb_X12_nextOf__53_2 N (zl_X12_nextOf__53 N n) l2 l3 I J else none)
theorem ze_X12_nextOf__53_0 (N : Nat) (n : Nat) (l2 : Int32) (l3 : Int32) (I : Nat → Nat → Int32) (J : Nat → Nat → Int64) : zl_X12_nextOf__53 N (n+1) 0 l2 l3 I J = zb_X12_nextOf__53_0 N (zl_X12_nextOf__53 N n) l2 l3 I J := by
  show (if 0 = 0 then zb_X12_nextOf__53_0 N (zl_X12_nextOf__53 N n) l2 l3 I J else (if 0 = 2 then zb_X12_nextOf__53_2 N (zl_X12_nextOf__53 N n) l2 l3 I J else none)) = _
  rw [if_pos rfl]
theorem ze_X12_nextOf__53_2 (N : Nat) (n : Nat) (l2 : Int32) (l3 : Int32) (I : Nat → Nat → Int32) (J : Nat → Nat → Int64) : zl_X12_nextOf__53 N (n+1) 2 l2 l3 I J = zb_X12_nextOf__53_2 N (zl_X12_nextOf__53 N n) l2 l3 I J := by
  show (if 2 = 0 then zb_X12_nextOf__53_0 N (zl_X12_nextOf__53 N n) l2 l3 I J else (if 2 = 2 then zb_X12_nextOf__53_2 N (zl_X12_nextOf__53 N n) l2 l3 I J else none)) = _
  rw [if_neg (by decide), if_pos rfl]
def zf_X12_nextOf__53 (N : Nat) (l2 : Int32) (I : Nat → Nat → Int32) (J : Nat → Nat → Int64) : Option (Int32 × (Nat → Nat → Int32) × (Nat → Nat → Int64)) := zl_X12_nextOf__53 N N 0 l2 0 I J
theorem zq_X12_nextOf__53 (F : zz_F) (d N : Nat) : ∀ n : Nat, (∀ (l2 : Int32) (l3 : Int32) (I : Nat → Nat → Int32) (J : Nat → Nat → Int64) (r : Int32 × (Nat → Nat → Int32) × (Nat → Nat → Int64)), zl_X12_nextOf__53 N n 0 l2 l3 I J = some r → zz_run (d+2) 236 0 [some (.ref 52), some (.ref 53), some (.int l2), none] [] (zz_S F I J) (some (.int r.1)) (zz_S F I J)) ∧ (∀ (l2 : Int32) (l3 : Int32) (I : Nat → Nat → Int32) (J : Nat → Nat → Int64) (r : Int32 × (Nat → Nat → Int32) × (Nat → Nat → Int64)), zl_X12_nextOf__53 N n 2 l2 l3 I J = some r → zz_run (d+2) 236 2 [some (.ref 52), some (.ref 53), some (.int l2), some (.int l3)] [] (zz_S F I J) (some (.int r.1)) (zz_S F I J)) := by
  intro n
  induction n with
  | zero => exact ⟨fun _ _ _ _ _ h => zz_no h, fun _ _ _ _ _ h => zz_no h⟩
  | succ n ih =>
    obtain ⟨ih0, ih2⟩ := ih
    refine ⟨?_, ?_⟩
    · intro l2 l3 I J r hr
      rw [ze_X12_nextOf__53_0] at hr
      unfold zb_X12_nextOf__53_0 at hr
      refine zs_236_0 ?_
      exact zz_wk [true, true, true, true] rfl (ih2 _ _ _ _ _ hr)
    · intro l2 l3 I J r hr
      rw [ze_X12_nextOf__53_2] at hr
      unfold zb_X12_nextOf__53_2 at hr
      refine zs_236_2 ?_
      refine And.intro (rfl) (And.intro (fun (h1 : (I 52 1) ≤ l3) => ?_) (fun (h1 : ¬ ((I 52 1) ≤ l3)) => ?_))
      · rw [if_pos h1] at hr
        show zz_run _ 236 33 [some (.ref 52), some (.ref 53), some (.int l2), some (.int l3)] [] (zz_S F I J) _ _
        refine zs_236_33 ?_
        replace hr := Option.some.inj hr
        subst hr
        exact And.intro rfl (And.intro rfl rfl)
      · rw [if_neg h1] at hr
        refine And.intro (Or.inl rfl) ?_
        have g1 : ¬ (l3 < 0 ∨ 18 ≤ l3.toNatClampNeg) := zz_g hr
        replace hr := zz_gt hr
        refine And.intro (g1) (And.intro (fun (h2 : ¬ (I 53 l3.toNatClampNeg) = 0) => ?_) (fun (h2 : ¬ (¬ (I 53 l3.toNatClampNeg) = 0)) => ?_))
        · rw [if_pos h2] at hr
          show zz_run _ 236 27 [some (.ref 52), some (.ref 53), some (.int l2), some (.int l3)] [] (zz_S F I J) _ _
          refine zs_236_27 ?_
          exact zz_wk [true, true, true, true] rfl (ih2 _ _ _ _ _ hr)
        · rw [if_neg h2] at hr
          refine And.intro (rfl) (And.intro (Nat.le_of_ble_eq_true rfl) (And.intro (Nat.le_of_ble_eq_true rfl) (And.intro (Nat.le_of_ble_eq_true rfl) ?_)))
          have g2 : ¬ (((7 * l3) + 0) < 0 ∨ 84 ≤ ((7 * l3) + 0).toNatClampNeg) := zz_g hr
          replace hr := zz_gt hr
          refine Exists.intro _ (Exists.intro _ (And.intro (zr_X12_playOf F I J d l3 g2) ?_))
          refine And.intro (fun (h3 : ¬ (zv_X12_playOf I l3) = l2) => ?_) (fun (h3 : ¬ (¬ (zv_X12_playOf I l3) = l2)) => ?_)
          · rw [if_pos h3] at hr
            show zz_run _ 236 27 [some (.ref 52), some (.ref 53), some (.int l2), some (.int l3)] [] (zz_S F I J) _ _
            refine zs_236_27 ?_
            exact zz_wk [true, true, true, true] rfl (ih2 _ _ _ _ _ hr)
          · rw [if_neg h3] at hr
            replace hr := Option.some.inj hr
            subst hr
            exact And.intro rfl (And.intro rfl rfl)
theorem zr_X12_nextOf__53 (F : zz_F) (I : Nat → Nat → Int32) (J : Nat → Nat → Int64) (d N : Nat) (l2 : Int32) (r : Int32 × (Nat → Nat → Int32) × (Nat → Nat → Int64)) (h : zf_X12_nextOf__53 N l2 I J = some r) : zz_run (d+2) 236 0 [some (.ref 52), some (.ref 53), some (.int l2), none] [] (zz_S F I J) (some (.int r.1)) (zz_S F I J) := (zq_X12_nextOf__53 F d N N).1 l2 0 I J r h
def zb_X12_nextOf__63_0 (N : Nat) (rec : Nat → Int32 → Int32 → (Nat → Nat → Int32) → (Nat → Nat → Int64) → Option (Int32 × (Nat → Nat → Int32) × (Nat → Nat → Int64))) (l2 : Int32) (l3 : Int32) (I : Nat → Nat → Int32) (J : Nat → Nat → Int64) : Option (Int32 × (Nat → Nat → Int32) × (Nat → Nat → Int64)) := rec 2 l2 0 I J
def zb_X12_nextOf__63_2 (N : Nat) (rec : Nat → Int32 → Int32 → (Nat → Nat → Int32) → (Nat → Nat → Int64) → Option (Int32 × (Nat → Nat → Int32) × (Nat → Nat → Int64))) (l2 : Int32) (l3 : Int32) (I : Nat → Nat → Int32) (J : Nat → Nat → Int64) : Option (Int32 × (Nat → Nat → Int32) × (Nat → Nat → Int64)) := if (I 52 1) ≤ l3 then (some ((-1), I, J)) else (if ¬ (l3 < 0 ∨ 18 ≤ l3.toNatClampNeg) then (if ¬ (I 63 l3.toNatClampNeg) = 0 then (rec 2 l2 (l3 + 1) I J) else (if ¬ (((7 * l3) + 0) < 0 ∨ 84 ≤ ((7 * l3) + 0).toNatClampNeg) then (if ¬ (zv_X12_playOf I l3) = l2 then (rec 2 l2 (l3 + 1) I J) else (some (l3, I, J))) else none)) else none)
def zl_X12_nextOf__63 (N : Nat) : Nat → Nat → Int32 → Int32 → (Nat → Nat → Int32) → (Nat → Nat → Int64) → Option (Int32 × (Nat → Nat → Int32) × (Nat → Nat → Int64))
  | 0 => fun _ _ _ _ _ => none
  | n + 1 => fun pc l2 l3 I J => if pc = 0 then zb_X12_nextOf__63_0 N (zl_X12_nextOf__63 N n) l2 l3 I J else (if pc = 2 then zb_X12_nextOf__63_2 N (zl_X12_nextOf__63 N n) l2 l3 I J else none)
theorem ze_X12_nextOf__63_0 (N : Nat) (n : Nat) (l2 : Int32) (l3 : Int32) (I : Nat → Nat → Int32) (J : Nat → Nat → Int64) : zl_X12_nextOf__63 N (n+1) 0 l2 l3 I J = zb_X12_nextOf__63_0 N (zl_X12_nextOf__63 N n) l2 l3 I J := by
  show (if 0 = 0 then zb_X12_nextOf__63_0 N (zl_X12_nextOf__63 N n) l2 l3 I J else (if 0 = 2 then zb_X12_nextOf__63_2 N (zl_X12_nextOf__63 N n) l2 l3 I J else none)) = _
  rw [if_pos rfl]
theorem ze_X12_nextOf__63_2 (N : Nat) (n : Nat) (l2 : Int32) (l3 : Int32) (I : Nat → Nat → Int32) (J : Nat → Nat → Int64) : zl_X12_nextOf__63 N (n+1) 2 l2 l3 I J = zb_X12_nextOf__63_2 N (zl_X12_nextOf__63 N n) l2 l3 I J := by
  show (if 2 = 0 then zb_X12_nextOf__63_0 N (zl_X12_nextOf__63 N n) l2 l3 I J else (if 2 = 2 then zb_X12_nextOf__63_2 N (zl_X12_nextOf__63 N n) l2 l3 I J else none)) = _
  rw [if_neg (by decide), if_pos rfl]
def zf_X12_nextOf__63 (N : Nat) (l2 : Int32) (I : Nat → Nat → Int32) (J : Nat → Nat → Int64) : Option (Int32 × (Nat → Nat → Int32) × (Nat → Nat → Int64)) := zl_X12_nextOf__63 N N 0 l2 0 I J
theorem zq_X12_nextOf__63 (F : zz_F) (d N : Nat) : ∀ n : Nat, (∀ (l2 : Int32) (l3 : Int32) (I : Nat → Nat → Int32) (J : Nat → Nat → Int64) (r : Int32 × (Nat → Nat → Int32) × (Nat → Nat → Int64)), zl_X12_nextOf__63 N n 0 l2 l3 I J = some r → zz_run (d+2) 236 0 [some (.ref 52), some (.ref 63), some (.int l2), none] [] (zz_S F I J) (some (.int r.1)) (zz_S F I J)) ∧ (∀ (l2 : Int32) (l3 : Int32) (I : Nat → Nat → Int32) (J : Nat → Nat → Int64) (r : Int32 × (Nat → Nat → Int32) × (Nat → Nat → Int64)), zl_X12_nextOf__63 N n 2 l2 l3 I J = some r → zz_run (d+2) 236 2 [some (.ref 52), some (.ref 63), some (.int l2), some (.int l3)] [] (zz_S F I J) (some (.int r.1)) (zz_S F I J)) := by
  intro n
  induction n with
  | zero => exact ⟨fun _ _ _ _ _ h => zz_no h, fun _ _ _ _ _ h => zz_no h⟩
  | succ n ih =>
    obtain ⟨ih0, ih2⟩ := ih
    refine ⟨?_, ?_⟩
    · intro l2 l3 I J r hr
      rw [ze_X12_nextOf__63_0] at hr
      unfold zb_X12_nextOf__63_0 at hr
      refine zs_236_0 ?_
      exact zz_wk [true, true, true, true] rfl (ih2 _ _ _ _ _ hr)
    · intro l2 l3 I J r hr
      rw [ze_X12_nextOf__63_2] at hr
      unfold zb_X12_nextOf__63_2 at hr
      refine zs_236_2 ?_
      refine And.intro (rfl) (And.intro (fun (h1 : (I 52 1) ≤ l3) => ?_) (fun (h1 : ¬ ((I 52 1) ≤ l3)) => ?_))
      · rw [if_pos h1] at hr
        show zz_run _ 236 33 [some (.ref 52), some (.ref 63), some (.int l2), some (.int l3)] [] (zz_S F I J) _ _
        refine zs_236_33 ?_
        replace hr := Option.some.inj hr
        subst hr
        exact And.intro rfl (And.intro rfl rfl)
      · rw [if_neg h1] at hr
        refine And.intro (Or.inl rfl) ?_
        have g1 : ¬ (l3 < 0 ∨ 18 ≤ l3.toNatClampNeg) := zz_g hr
        replace hr := zz_gt hr
        refine And.intro (g1) (And.intro (fun (h2 : ¬ (I 63 l3.toNatClampNeg) = 0) => ?_) (fun (h2 : ¬ (¬ (I 63 l3.toNatClampNeg) = 0)) => ?_))
        · rw [if_pos h2] at hr
          show zz_run _ 236 27 [some (.ref 52), some (.ref 63), some (.int l2), some (.int l3)] [] (zz_S F I J) _ _
          refine zs_236_27 ?_
          exact zz_wk [true, true, true, true] rfl (ih2 _ _ _ _ _ hr)
        · rw [if_neg h2] at hr
          refine And.intro (rfl) (And.intro (Nat.le_of_ble_eq_true rfl) (And.intro (Nat.le_of_ble_eq_true rfl) (And.intro (Nat.le_of_ble_eq_true rfl) ?_)))
          have g2 : ¬ (((7 * l3) + 0) < 0 ∨ 84 ≤ ((7 * l3) + 0).toNatClampNeg) := zz_g hr
          replace hr := zz_gt hr
          refine Exists.intro _ (Exists.intro _ (And.intro (zr_X12_playOf F I J d l3 g2) ?_))
          refine And.intro (fun (h3 : ¬ (zv_X12_playOf I l3) = l2) => ?_) (fun (h3 : ¬ (¬ (zv_X12_playOf I l3) = l2)) => ?_)
          · rw [if_pos h3] at hr
            show zz_run _ 236 27 [some (.ref 52), some (.ref 63), some (.int l2), some (.int l3)] [] (zz_S F I J) _ _
            refine zs_236_27 ?_
            exact zz_wk [true, true, true, true] rfl (ih2 _ _ _ _ _ hr)
          · rw [if_neg h3] at hr
            replace hr := Option.some.inj hr
            subst hr
            exact And.intro rfl (And.intro rfl rfl)
theorem zr_X12_nextOf__63 (F : zz_F) (I : Nat → Nat → Int32) (J : Nat → Nat → Int64) (d N : Nat) (l2 : Int32) (r : Int32 × (Nat → Nat → Int32) × (Nat → Nat → Int64)) (h : zf_X12_nextOf__63 N l2 I J = some r) : zz_run (d+2) 236 0 [some (.ref 52), some (.ref 63), some (.int l2), none] [] (zz_S F I J) (some (.int r.1)) (zz_S F I J) := (zq_X12_nextOf__63 F d N N).1 l2 0 I J r h
def zb_X12_play_0 (N : Nat) (rec : Nat → Int32 → Int32 → (Nat → Nat → Int32) → (Nat → Nat → Int64) → Option (Int32 × (Nat → Nat → Int32) × (Nat → Nat → Int64))) (l1 : Int32) (l2 : Int32) (I : Nat → Nat → Int32) (J : Nat → Nat → Int64) : Option (Int32 × (Nat → Nat → Int32) × (Nat → Nat → Int64)) := if (zv_X12_isPlay l1) = 0 then (rec 22 0 0 (zz_u I 52 7 0) J) else (if ¬ (zv_X12_in l2 0 6) = 0 then (if l2 = 0 then (rec 68 l1 l2 (zz_u I 52 7 0) J) else (if l2 = 1 then (rec 68 l1 l2 (zz_u I 52 7 0) J) else (if l2 = 2 then (rec 68 l1 l2 (zz_u I 52 7 0) J) else (if l2 = 3 then (if ¬ ((14 + l1) < 0 ∨ 18 ≤ (14 + l1).toNatClampNeg) then (some (I 53 ((14 + l1).toNatClampNeg), zz_u I 52 7 0, J)) else none) else (if l2 = 4 then (if ¬ ((16 + l1) < 0 ∨ 18 ≤ (16 + l1).toNatClampNeg) then (some (I 53 ((16 + l1).toNatClampNeg), zz_u I 52 7 0, J)) else none) else (if l2 = 5 then ((zf_X12_nextOf__53 N l1 (zz_u I 52 7 0) J).bind fun r3 => some (r3.1, zz_u I 52 7 0, J)) else ((zf_X12_whereBits N 0 (zz_u I 52 7 0) J).bind fun r4 => (zf_X12_ofPlay N r4.1 l1 (zz_u I 52 7 0) J).bind fun r5 => (zf_X12_minutesOf N r5.1 (zz_u I 52 7 0) J).bind fun r6 => some (r6.1, zz_u I 52 7 0, J)))))))) else (rec 22 0 0 (zz_u I 52 7 0) J))
def zb_X12_play_22 (N : Nat) (rec : Nat → Int32 → Int32 → (Nat → Nat → Int32) → (Nat → Nat → Int64) → Option (Int32 × (Nat → Nat → Int32) × (Nat → Nat → Int64))) (l1 : Int32) (l2 : Int32) (I : Nat → Nat → Int32) (J : Nat → Nat → Int64) : Option (Int32 × (Nat → Nat → Int32) × (Nat → Nat → Int64)) := some (zv_X12_lost I, zw_X12_lost I, J)
def zb_X12_play_68 (N : Nat) (rec : Nat → Int32 → Int32 → (Nat → Nat → Int32) → (Nat → Nat → Int64) → Option (Int32 × (Nat → Nat → Int32) × (Nat → Nat → Int64))) (l1 : Int32) (l2 : Int32) (I : Nat → Nat → Int32) (J : Nat → Nat → Int64) : Option (Int32 × (Nat → Nat → Int32) × (Nat → Nat → Int64)) := (zf_X12_whereBits N l2 I J).bind fun r7 => (zf_X12_ofPlay N r7.1 l1 I J).bind fun r8 => some (r8.1, I, J)
def zl_X12_play (N : Nat) : Nat → Nat → Int32 → Int32 → (Nat → Nat → Int32) → (Nat → Nat → Int64) → Option (Int32 × (Nat → Nat → Int32) × (Nat → Nat → Int64))
  | 0 => fun _ _ _ _ _ => none
  | n + 1 => fun pc l1 l2 I J => if pc = 0 then zb_X12_play_0 N (zl_X12_play N n) l1 l2 I J else (if pc = 22 then zb_X12_play_22 N (zl_X12_play N n) l1 l2 I J else (if pc = 68 then zb_X12_play_68 N (zl_X12_play N n) l1 l2 I J else none))
theorem ze_X12_play_0 (N : Nat) (n : Nat) (l1 : Int32) (l2 : Int32) (I : Nat → Nat → Int32) (J : Nat → Nat → Int64) : zl_X12_play N (n+1) 0 l1 l2 I J = zb_X12_play_0 N (zl_X12_play N n) l1 l2 I J := by
  show (if 0 = 0 then zb_X12_play_0 N (zl_X12_play N n) l1 l2 I J else (if 0 = 22 then zb_X12_play_22 N (zl_X12_play N n) l1 l2 I J else (if 0 = 68 then zb_X12_play_68 N (zl_X12_play N n) l1 l2 I J else none))) = _
  rw [if_pos rfl]
theorem ze_X12_play_22 (N : Nat) (n : Nat) (l1 : Int32) (l2 : Int32) (I : Nat → Nat → Int32) (J : Nat → Nat → Int64) : zl_X12_play N (n+1) 22 l1 l2 I J = zb_X12_play_22 N (zl_X12_play N n) l1 l2 I J := by
  show (if 22 = 0 then zb_X12_play_0 N (zl_X12_play N n) l1 l2 I J else (if 22 = 22 then zb_X12_play_22 N (zl_X12_play N n) l1 l2 I J else (if 22 = 68 then zb_X12_play_68 N (zl_X12_play N n) l1 l2 I J else none))) = _
  rw [if_neg (by decide), if_pos rfl]
theorem ze_X12_play_68 (N : Nat) (n : Nat) (l1 : Int32) (l2 : Int32) (I : Nat → Nat → Int32) (J : Nat → Nat → Int64) : zl_X12_play N (n+1) 68 l1 l2 I J = zb_X12_play_68 N (zl_X12_play N n) l1 l2 I J := by
  show (if 68 = 0 then zb_X12_play_0 N (zl_X12_play N n) l1 l2 I J else (if 68 = 22 then zb_X12_play_22 N (zl_X12_play N n) l1 l2 I J else (if 68 = 68 then zb_X12_play_68 N (zl_X12_play N n) l1 l2 I J else none))) = _
  rw [if_neg (by decide), if_neg (by decide), if_pos rfl]
def zf_X12_play (N : Nat) (l1 : Int32) (l2 : Int32) (I : Nat → Nat → Int32) (J : Nat → Nat → Int64) : Option (Int32 × (Nat → Nat → Int32) × (Nat → Nat → Int64)) := zl_X12_play N N 0 l1 l2 I J
theorem zq_X12_play (F : zz_F) (d N : Nat) : ∀ n : Nat, (∀ (l1 : Int32) (l2 : Int32) (I : Nat → Nat → Int32) (J : Nat → Nat → Int64) (r : Int32 × (Nat → Nat → Int32) × (Nat → Nat → Int64)), zl_X12_play N n 0 l1 l2 I J = some r → zz_run (d+3) 238 0 [some (.ref 52), some (.int l1), some (.int l2)] [] (zz_S F I J) (some (.int r.1)) (zz_S F (r.2.1) J)) ∧ (∀ (l1 : Int32) (l2 : Int32) (I : Nat → Nat → Int32) (J : Nat → Nat → Int64) (r : Int32 × (Nat → Nat → Int32) × (Nat → Nat → Int64)), zl_X12_play N n 22 l1 l2 I J = some r → zz_run (d+3) 238 22 [some (.ref 52), none, none] [] (zz_S F I J) (some (.int r.1)) (zz_S F (r.2.1) J)) ∧ (∀ (l1 : Int32) (l2 : Int32) (I : Nat → Nat → Int32) (J : Nat → Nat → Int64) (r : Int32 × (Nat → Nat → Int32) × (Nat → Nat → Int64)), zl_X12_play N n 68 l1 l2 I J = some r → zz_run (d+3) 238 68 [some (.ref 52), some (.int l1), some (.int l2)] [] (zz_S F I J) (some (.int r.1)) (zz_S F (r.2.1) J)) := by
  intro n
  induction n with
  | zero => exact ⟨fun _ _ _ _ _ h => zz_no h, fun _ _ _ _ _ h => zz_no h, fun _ _ _ _ _ h => zz_no h⟩
  | succ n ih =>
    obtain ⟨ih0, ih22, ih68⟩ := ih
    refine ⟨?_, ?_, ?_⟩
    · intro l1 l2 I J r hr
      rw [ze_X12_play_0] at hr
      unfold zb_X12_play_0 at hr
      refine zs_238_0 ?_
      refine And.intro (rfl) (And.intro (rfl) (And.intro (And.intro rfl rfl) (And.intro (Nat.le_of_ble_eq_true rfl) (And.intro (Nat.le_of_ble_eq_true rfl) (And.intro (Nat.le_of_ble_eq_true rfl) ?_)))))
      refine Exists.intro _ (Exists.intro _ (And.intro (zr_X12_isPlay F (zz_u I 52 7 0) J (d+1) l1) ?_))
      refine And.intro (fun (h1 : (zv_X12_isPlay l1) = 0) => ?_) (fun (h1 : ¬ ((zv_X12_isPlay l1) = 0)) => ?_)
      · rw [if_pos h1] at hr
        exact zz_wk [true, false, false] rfl (ih22 _ _ _ _ _ hr)
      · rw [if_neg h1] at hr
        refine And.intro (Nat.le_of_ble_eq_true rfl) (And.intro (Nat.le_of_ble_eq_true rfl) (And.intro (Nat.le_of_ble_eq_true rfl) ?_))
        refine Exists.intro _ (Exists.intro _ (And.intro (zr_X12_in F (zz_u I 52 7 0) J (d+2) l2 0 6) ?_))
        refine And.intro (fun (h2 : ¬ (zv_X12_in l2 0 6) = 0) => ?_) (fun (h2 : ¬ (¬ (zv_X12_in l2 0 6) = 0)) => ?_)
        · rw [if_pos h2] at hr
          show zz_run _ 238 27 [some (.ref 52), some (.int l1), some (.int l2)] [] (zz_S F (zz_u I 52 7 0) J) _ _
          refine zs_238_27 ?_
          by_cases s3_0 : l2 = 0
          · rw [if_pos s3_0] at hr
            refine And.intro (fun (q : l2.toInt < 0 ∨ 5 < l2.toInt) => absurd q (by rw [s3_0]; decide)) (fun _ => Exists.intro 40 (And.intro (show (#[40, 40, 40, 51, 61, 71] : Array Int)[(l2.toInt - 0).toNat]? = some 40 from by rw [s3_0]; rfl) ?_))
            exact zz_wk [true, true, true] rfl (ih68 _ _ _ _ _ hr)
          · rw [if_neg s3_0] at hr
            by_cases s3_1 : l2 = 1
            · rw [if_pos s3_1] at hr
              refine And.intro (fun (q : l2.toInt < 0 ∨ 5 < l2.toInt) => absurd q (by rw [s3_1]; decide)) (fun _ => Exists.intro 40 (And.intro (show (#[40, 40, 40, 51, 61, 71] : Array Int)[(l2.toInt - 0).toNat]? = some 40 from by rw [s3_1]; rfl) ?_))
              exact zz_wk [true, true, true] rfl (ih68 _ _ _ _ _ hr)
            · rw [if_neg s3_1] at hr
              by_cases s3_2 : l2 = 2
              · rw [if_pos s3_2] at hr
                refine And.intro (fun (q : l2.toInt < 0 ∨ 5 < l2.toInt) => absurd q (by rw [s3_2]; decide)) (fun _ => Exists.intro 40 (And.intro (show (#[40, 40, 40, 51, 61, 71] : Array Int)[(l2.toInt - 0).toNat]? = some 40 from by rw [s3_2]; rfl) ?_))
                exact zz_wk [true, true, true] rfl (ih68 _ _ _ _ _ hr)
              · rw [if_neg s3_2] at hr
                by_cases s3_3 : l2 = 3
                · rw [if_pos s3_3] at hr
                  refine And.intro (fun (q : l2.toInt < 0 ∨ 5 < l2.toInt) => absurd q (by rw [s3_3]; decide)) (fun _ => Exists.intro 51 (And.intro (show (#[40, 40, 40, 51, 61, 71] : Array Int)[(l2.toInt - 0).toNat]? = some 51 from by rw [s3_3]; rfl) ?_))
                  show zz_run _ 238 79 [some (.ref 52), some (.int l1), some (.int l2)] [] (zz_S F (zz_u I 52 7 0) J) _ _
                  refine zs_238_79 ?_
                  refine And.intro (rfl) (And.intro (Or.inl rfl) ?_)
                  have g1 : ¬ ((14 + l1) < 0 ∨ 18 ≤ (14 + l1).toNatClampNeg) := zz_g hr
                  replace hr := zz_gt hr
                  refine And.intro (g1) ?_
                  replace hr := Option.some.inj hr
                  subst hr
                  exact And.intro rfl (And.intro rfl rfl)
                · rw [if_neg s3_3] at hr
                  by_cases s3_4 : l2 = 4
                  · rw [if_pos s3_4] at hr
                    refine And.intro (fun (q : l2.toInt < 0 ∨ 5 < l2.toInt) => absurd q (by rw [s3_4]; decide)) (fun _ => Exists.intro 61 (And.intro (show (#[40, 40, 40, 51, 61, 71] : Array Int)[(l2.toInt - 0).toNat]? = some 61 from by rw [s3_4]; rfl) ?_))
                    show zz_run _ 238 89 [some (.ref 52), some (.int l1), some (.int l2)] [] (zz_S F (zz_u I 52 7 0) J) _ _
                    refine zs_238_89 ?_
                    refine And.intro (rfl) (And.intro (Or.inl rfl) ?_)
                    have g2 : ¬ ((16 + l1) < 0 ∨ 18 ≤ (16 + l1).toNatClampNeg) := zz_g hr
                    replace hr := zz_gt hr
                    refine And.intro (g2) ?_
                    replace hr := Option.some.inj hr
                    subst hr
                    exact And.intro rfl (And.intro rfl rfl)
                  · rw [if_neg s3_4] at hr
                    by_cases s3_5 : l2 = 5
                    · rw [if_pos s3_5] at hr
                      refine And.intro (fun (q : l2.toInt < 0 ∨ 5 < l2.toInt) => absurd q (by rw [s3_5]; decide)) (fun _ => Exists.intro 71 (And.intro (show (#[40, 40, 40, 51, 61, 71] : Array Int)[(l2.toInt - 0).toNat]? = some 71 from by rw [s3_5]; rfl) ?_))
                      show zz_run _ 238 99 [some (.ref 52), some (.int l1), some (.int l2)] [] (zz_S F (zz_u I 52 7 0) J) _ _
                      refine zs_238_99 ?_
                      refine And.intro (rfl) (And.intro (rfl) (And.intro (Nat.le_of_ble_eq_true rfl) (And.intro (Nat.le_of_ble_eq_true rfl) (And.intro (Nat.le_of_ble_eq_true rfl) ?_))))
                      obtain ⟨r3, cr3, hr⟩ := Option.bind_eq_some_iff.mp hr
                      refine Exists.intro _ (Exists.intro _ (And.intro (zr_X12_nextOf__53 F (zz_u I 52 7 0) J d N l1 r3 cr3) ?_))
                      replace hr := Option.some.inj hr
                      subst hr
                      exact And.intro rfl (And.intro rfl rfl)
                    · rw [if_neg s3_5] at hr
                      have es3_0 : ¬ l2.toInt = 0 := fun q => s3_0 (zz_toI q rfl)
                      have es3_1 : ¬ l2.toInt = 1 := fun q => s3_1 (zz_toI q rfl)
                      have es3_2 : ¬ l2.toInt = 2 := fun q => s3_2 (zz_toI q rfl)
                      have es3_3 : ¬ l2.toInt = 3 := fun q => s3_3 (zz_toI q rfl)
                      have es3_4 : ¬ l2.toInt = 4 := fun q => s3_4 (zz_toI q rfl)
                      have es3_5 : ¬ l2.toInt = 5 := fun q => s3_5 (zz_toI q rfl)
                      refine And.intro (fun _ => ?_) (fun (q : ¬ (l2.toInt < 0 ∨ 5 < l2.toInt)) => absurd (by omega) q)
                      show zz_run _ 238 109 [some (.ref 52), some (.int l1), some (.int l2)] [] (zz_S F (zz_u I 52 7 0) J) _ _
                      refine zs_238_109 ?_
                      refine And.intro (rfl) (And.intro (Nat.le_of_ble_eq_true rfl) (And.intro (Nat.le_of_ble_eq_true rfl) (And.intro (Nat.le_of_ble_eq_true rfl) ?_)))
                      obtain ⟨r4, cr4, hr⟩ := Option.bind_eq_some_iff.mp hr
                      refine Exists.intro _ (Exists.intro _ (And.intro (zr_X12_whereBits F (zz_u I 52 7 0) J (d+2) N 0 r4 cr4) ?_))
                      refine And.intro (rfl) (And.intro (Nat.le_of_ble_eq_true rfl) (And.intro (Nat.le_of_ble_eq_true rfl) (And.intro (Nat.le_of_ble_eq_true rfl) ?_)))
                      obtain ⟨r5, cr5, hr⟩ := Option.bind_eq_some_iff.mp hr
                      refine Exists.intro _ (Exists.intro _ (And.intro (zr_X12_ofPlay F (zz_u I 52 7 0) J d N r4.1 l1 r5 cr5) ?_))
                      refine And.intro (rfl) (And.intro (Nat.le_of_ble_eq_true rfl) (And.intro (Nat.le_of_ble_eq_true rfl) (And.intro (Nat.le_of_ble_eq_true rfl) ?_)))
                      obtain ⟨r6, cr6, hr⟩ := Option.bind_eq_some_iff.mp hr
                      refine Exists.intro _ (Exists.intro _ (And.intro (zr_X12_minutesOf F (zz_u I 52 7 0) J (d+1) N r5.1 r6 cr6) ?_))
                      replace hr := Option.some.inj hr
                      subst hr
                      exact And.intro rfl (And.intro rfl rfl)
        · rw [if_neg h2] at hr
          exact zz_wk [true, false, false] rfl (ih22 _ _ _ _ _ hr)
    · intro l1 l2 I J r hr
      rw [ze_X12_play_22] at hr
      unfold zb_X12_play_22 at hr
      refine zs_238_22 ?_
      refine And.intro (rfl) (And.intro (Nat.le_of_ble_eq_true rfl) (And.intro (Nat.le_of_ble_eq_true rfl) (And.intro (Nat.le_of_ble_eq_true rfl) ?_)))
      refine Exists.intro _ (Exists.intro _ (And.intro (zr_X12_lost F I J (d+2) ) ?_))
      replace hr := Option.some.inj hr
      subst hr
      exact And.intro rfl (And.intro rfl rfl)
    · intro l1 l2 I J r hr
      rw [ze_X12_play_68] at hr
      unfold zb_X12_play_68 at hr
      refine zs_238_68 ?_
      refine And.intro (rfl) (And.intro (Nat.le_of_ble_eq_true rfl) (And.intro (Nat.le_of_ble_eq_true rfl) (And.intro (Nat.le_of_ble_eq_true rfl) ?_)))
      obtain ⟨r7, cr7, hr⟩ := Option.bind_eq_some_iff.mp hr
      refine Exists.intro _ (Exists.intro _ (And.intro (zr_X12_whereBits F I J (d+2) N l2 r7 cr7) ?_))
      refine And.intro (rfl) (And.intro (Nat.le_of_ble_eq_true rfl) (And.intro (Nat.le_of_ble_eq_true rfl) (And.intro (Nat.le_of_ble_eq_true rfl) ?_)))
      obtain ⟨r8, cr8, hr⟩ := Option.bind_eq_some_iff.mp hr
      refine Exists.intro _ (Exists.intro _ (And.intro (zr_X12_ofPlay F I J d N r7.1 l1 r8 cr8) ?_))
      replace hr := Option.some.inj hr
      subst hr
      exact And.intro rfl (And.intro rfl rfl)
theorem zr_X12_play (F : zz_F) (I : Nat → Nat → Int32) (J : Nat → Nat → Int64) (d N : Nat) (l1 : Int32) (l2 : Int32) (r : Int32 × (Nat → Nat → Int32) × (Nat → Nat → Int64)) (h : zf_X12_play N l1 l2 I J = some r) : zz_run (d+3) 238 0 [some (.ref 52), some (.int l1), some (.int l2)] [] (zz_S F I J) (some (.int r.1)) (zz_S F (r.2.1) J) := (zq_X12_play F d N N).1 l1 l2 I J r h
def zb_X12_sheet_0 (N : Nat) (rec : Nat → Int32 → Int32 → Int32 → Int32 → Int32 → Int32 → Int32 → (Nat → Nat → Int32) → (Nat → Nat → Int64) → Option (Int32 × (Nat → Nat → Int32) × (Nat → Nat → Int64))) (l1 : Int32) (l2 : Int32) (l3 : Int32) (l4 : Int32) (l5 : Int32) (l6 : Int32) (l7 : Int32) (I : Nat → Nat → Int32) (J : Nat → Nat → Int64) : Option (Int32 × (Nat → Nat → Int32) × (Nat → Nat → Int64)) := if (zv_X12_in l1 0 3) = 0 then (rec 20 0 0 0 0 0 0 0 (zz_u I 52 7 0) J) else (if l2 ≤ 12 then (if 3 ≤ l1 then (rec 34 l1 l2 l3 l4 0 0 0 (zz_u I 52 7 0) J) else (if 0 ≤ l2 then (rec 34 l1 l2 l3 l4 0 0 0 (zz_u I 52 7 0) J) else (some ((-2), zz_u I 52 7 0, J)))) else (rec 20 0 0 0 0 0 0 0 (zz_u I 52 7 0) J))
def zb_X12_sheet_20 (N : Nat) (rec : Nat → Int32 → Int32 → Int32 → Int32 → Int32 → Int32 → Int32 → (Nat → Nat → Int32) → (Nat → Nat → Int64) → Option (Int32 × (Nat → Nat → Int32) × (Nat → Nat → Int64))) (l1 : Int32) (l2 : Int32) (l3 : Int32) (l4 : Int32) (l5 : Int32) (l6 : Int32) (l7 : Int32) (I : Nat → Nat → Int32) (J : Nat → Nat → Int64) : Option (Int32 × (Nat → Nat → Int32) × (Nat → Nat → Int64)) := some ((-1), I, J)
def zb_X12_sheet_34 (N : Nat) (rec : Nat → Int32 → Int32 → Int32 → Int32 → Int32 → Int32 → Int32 → (Nat → Nat → Int32) → (Nat → Nat → Int64) → Option (Int32 × (Nat → Nat → Int32) × (Nat → Nat → Int64))) (l1 : Int32) (l2 : Int32) (l3 : Int32) (l4 : Int32) (l5 : Int32) (l6 : Int32) (l7 : Int32) (I : Nat → Nat → Int32) (J : Nat → Nat → Int64) : Option (Int32 × (Nat → Nat → Int32) × (Nat → Nat → Int64)) := rec 43 l1 l2 0 l4 0 l3 0 I J
def zb_X12_sheet_43 (N : Nat) (rec : Nat → Int32 → Int32 → Int32 → Int32 → Int32 → Int32 → Int32 → (Nat → Nat → Int32) → (Nat → Nat → Int64) → Option (Int32 × (Nat → Nat → Int32) × (Nat → Nat → Int64))) (l1 : Int32) (l2 : Int32) (l3 : Int32) (l4 : Int32) (l5 : Int32) (l6 : Int32) (l7 : Int32) (I : Nat → Nat → Int32) (J : Nat → Nat → Int64) : Option (Int32 × (Nat → Nat → Int32) × (Nat → Nat → Int64)) := if (I 52 1) ≤ l7 then (if ¬ l1 = 3 then (some (l5, I, J)) else (some ((-3), I, J))) else (if ¬ l1 = 0 then (if ¬ l1 = 1 then (if l1 = 3 then (rec 88 l1 l2 0 l4 l5 l6 l7 I J) else (if l7 < l2 then (if ¬ (((7 * l7) + 1) < 0 ∨ 84 ≤ ((7 * l7) + 1).toNatClampNeg) then (rec 43 l1 l2 0 l4 (l5 + (zz_max 1 (zz_min 9 l6))) (l6 + l4) (l7 + 1) (zz_u I 54 (((7 * l7) + 1).toNatClampNeg) (zz_max 1 (zz_min 9 l6))) J) else none) else (rec 88 l1 l2 0 l4 l5 l6 l7 I J))) else (if l1 = 3 then (rec 88 l1 l2 0 l4 l5 l6 l7 I J) else (if l7 < l2 then (if ¬ (((7 * l7) + 1) < 0 ∨ 84 ≤ ((7 * l7) + 1).toNatClampNeg) then (rec 43 l1 l2 0 l4 (l5 + (zz_max 1 (zz_min 9 l6.toInt16.toInt32))) (l6 + l4) (l7 + 1) (zz_u I 54 (((7 * l7) + 1).toNatClampNeg) (zz_max 1 (zz_min 9 l6.toInt16.toInt32))) J) else none) else (rec 88 l1 l2 0 l4 l5 l6 l7 I J)))) else (if l1 = 3 then (rec 88 l1 l2 0 l4 l5 l6 l7 I J) else (if l7 < l2 then (if ¬ (((7 * l7) + 1) < 0 ∨ 84 ≤ ((7 * l7) + 1).toNatClampNeg) then (rec 43 l1 l2 0 l4 (l5 + (zz_max 1 (zz_min 9 l6.toInt8.toInt32))) (l6 + l4) (l7 + 1) (zz_u I 54 (((7 * l7) + 1).toNatClampNeg) (zz_max 1 (zz_min 9 l6.toInt8.toInt32))) J) else none) else (rec 88 l1 l2 0 l4 l5 l6 l7 I J))))
def zb_X12_sheet_88 (N : Nat) (rec : Nat → Int32 → Int32 → Int32 → Int32 → Int32 → Int32 → Int32 → (Nat → Nat → Int32) → (Nat → Nat → Int64) → Option (Int32 × (Nat → Nat → Int32) × (Nat → Nat → Int64))) (l1 : Int32) (l2 : Int32) (l3 : Int32) (l4 : Int32) (l5 : Int32) (l6 : Int32) (l7 : Int32) (I : Nat → Nat → Int32) (J : Nat → Nat → Int64) : Option (Int32 × (Nat → Nat → Int32) × (Nat → Nat → Int64)) := if ¬ (((7 * l7) + 1) < 0 ∨ 84 ≤ ((7 * l7) + 1).toNatClampNeg) then (rec 43 l1 l2 0 l4 (l5 + 1) (l6 + l4) (l7 + 1) (zz_u I 54 (((7 * l7) + 1).toNatClampNeg) 1) J) else none
def zl_X12_sheet (N : Nat) : Nat → Nat → Int32 → Int32 → Int32 → Int32 → Int32 → Int32 → Int32 → (Nat → Nat → Int32) → (Nat → Nat → Int64) → Option (Int32 × (Nat → Nat → Int32) × (Nat → Nat → Int64))
  | 0 => fun _ _ _ _ _ _ _ _ _ _ => none
  | n + 1 => fun pc l1 l2 l3 l4 l5 l6 l7 I J => if pc = 0 then zb_X12_sheet_0 N (zl_X12_sheet N n) l1 l2 l3 l4 l5 l6 l7 I J else (if pc = 20 then zb_X12_sheet_20 N (zl_X12_sheet N n) l1 l2 l3 l4 l5 l6 l7 I J else (if pc = 34 then zb_X12_sheet_34 N (zl_X12_sheet N n) l1 l2 l3 l4 l5 l6 l7 I J else (if pc = 43 then zb_X12_sheet_43 N (zl_X12_sheet N n) l1 l2 l3 l4 l5 l6 l7 I J else (if pc = 88 then zb_X12_sheet_88 N (zl_X12_sheet N n) l1 l2 l3 l4 l5 l6 l7 I J else none))))
theorem ze_X12_sheet_0 (N : Nat) (n : Nat) (l1 : Int32) (l2 : Int32) (l3 : Int32) (l4 : Int32) (l5 : Int32) (l6 : Int32) (l7 : Int32) (I : Nat → Nat → Int32) (J : Nat → Nat → Int64) : zl_X12_sheet N (n+1) 0 l1 l2 l3 l4 l5 l6 l7 I J = zb_X12_sheet_0 N (zl_X12_sheet N n) l1 l2 l3 l4 l5 l6 l7 I J := by
  show (if 0 = 0 then zb_X12_sheet_0 N (zl_X12_sheet N n) l1 l2 l3 l4 l5 l6 l7 I J else (if 0 = 20 then zb_X12_sheet_20 N (zl_X12_sheet N n) l1 l2 l3 l4 l5 l6 l7 I J else (if 0 = 34 then zb_X12_sheet_34 N (zl_X12_sheet N n) l1 l2 l3 l4 l5 l6 l7 I J else (if 0 = 43 then zb_X12_sheet_43 N (zl_X12_sheet N n) l1 l2 l3 l4 l5 l6 l7 I J else (if 0 = 88 then zb_X12_sheet_88 N (zl_X12_sheet N n) l1 l2 l3 l4 l5 l6 l7 I J else none))))) = _
  rw [if_pos rfl]
theorem ze_X12_sheet_20 (N : Nat) (n : Nat) (l1 : Int32) (l2 : Int32) (l3 : Int32) (l4 : Int32) (l5 : Int32) (l6 : Int32) (l7 : Int32) (I : Nat → Nat → Int32) (J : Nat → Nat → Int64) : zl_X12_sheet N (n+1) 20 l1 l2 l3 l4 l5 l6 l7 I J = zb_X12_sheet_20 N (zl_X12_sheet N n) l1 l2 l3 l4 l5 l6 l7 I J := by
  show (if 20 = 0 then zb_X12_sheet_0 N (zl_X12_sheet N n) l1 l2 l3 l4 l5 l6 l7 I J else (if 20 = 20 then zb_X12_sheet_20 N (zl_X12_sheet N n) l1 l2 l3 l4 l5 l6 l7 I J else (if 20 = 34 then zb_X12_sheet_34 N (zl_X12_sheet N n) l1 l2 l3 l4 l5 l6 l7 I J else (if 20 = 43 then zb_X12_sheet_43 N (zl_X12_sheet N n) l1 l2 l3 l4 l5 l6 l7 I J else (if 20 = 88 then zb_X12_sheet_88 N (zl_X12_sheet N n) l1 l2 l3 l4 l5 l6 l7 I J else none))))) = _
  rw [if_neg (by decide), if_pos rfl]
theorem ze_X12_sheet_34 (N : Nat) (n : Nat) (l1 : Int32) (l2 : Int32) (l3 : Int32) (l4 : Int32) (l5 : Int32) (l6 : Int32) (l7 : Int32) (I : Nat → Nat → Int32) (J : Nat → Nat → Int64) : zl_X12_sheet N (n+1) 34 l1 l2 l3 l4 l5 l6 l7 I J = zb_X12_sheet_34 N (zl_X12_sheet N n) l1 l2 l3 l4 l5 l6 l7 I J := by
  show (if 34 = 0 then zb_X12_sheet_0 N (zl_X12_sheet N n) l1 l2 l3 l4 l5 l6 l7 I J else (if 34 = 20 then zb_X12_sheet_20 N (zl_X12_sheet N n) l1 l2 l3 l4 l5 l6 l7 I J else (if 34 = 34 then zb_X12_sheet_34 N (zl_X12_sheet N n) l1 l2 l3 l4 l5 l6 l7 I J else (if 34 = 43 then zb_X12_sheet_43 N (zl_X12_sheet N n) l1 l2 l3 l4 l5 l6 l7 I J else (if 34 = 88 then zb_X12_sheet_88 N (zl_X12_sheet N n) l1 l2 l3 l4 l5 l6 l7 I J else none))))) = _
  rw [if_neg (by decide), if_neg (by decide), if_pos rfl]
theorem ze_X12_sheet_43 (N : Nat) (n : Nat) (l1 : Int32) (l2 : Int32) (l3 : Int32) (l4 : Int32) (l5 : Int32) (l6 : Int32) (l7 : Int32) (I : Nat → Nat → Int32) (J : Nat → Nat → Int64) : zl_X12_sheet N (n+1) 43 l1 l2 l3 l4 l5 l6 l7 I J = zb_X12_sheet_43 N (zl_X12_sheet N n) l1 l2 l3 l4 l5 l6 l7 I J := by
  show (if 43 = 0 then zb_X12_sheet_0 N (zl_X12_sheet N n) l1 l2 l3 l4 l5 l6 l7 I J else (if 43 = 20 then zb_X12_sheet_20 N (zl_X12_sheet N n) l1 l2 l3 l4 l5 l6 l7 I J else (if 43 = 34 then zb_X12_sheet_34 N (zl_X12_sheet N n) l1 l2 l3 l4 l5 l6 l7 I J else (if 43 = 43 then zb_X12_sheet_43 N (zl_X12_sheet N n) l1 l2 l3 l4 l5 l6 l7 I J else (if 43 = 88 then zb_X12_sheet_88 N (zl_X12_sheet N n) l1 l2 l3 l4 l5 l6 l7 I J else none))))) = _
  rw [if_neg (by decide), if_neg (by decide), if_neg (by decide), if_pos rfl]
theorem ze_X12_sheet_88 (N : Nat) (n : Nat) (l1 : Int32) (l2 : Int32) (l3 : Int32) (l4 : Int32) (l5 : Int32) (l6 : Int32) (l7 : Int32) (I : Nat → Nat → Int32) (J : Nat → Nat → Int64) : zl_X12_sheet N (n+1) 88 l1 l2 l3 l4 l5 l6 l7 I J = zb_X12_sheet_88 N (zl_X12_sheet N n) l1 l2 l3 l4 l5 l6 l7 I J := by
  show (if 88 = 0 then zb_X12_sheet_0 N (zl_X12_sheet N n) l1 l2 l3 l4 l5 l6 l7 I J else (if 88 = 20 then zb_X12_sheet_20 N (zl_X12_sheet N n) l1 l2 l3 l4 l5 l6 l7 I J else (if 88 = 34 then zb_X12_sheet_34 N (zl_X12_sheet N n) l1 l2 l3 l4 l5 l6 l7 I J else (if 88 = 43 then zb_X12_sheet_43 N (zl_X12_sheet N n) l1 l2 l3 l4 l5 l6 l7 I J else (if 88 = 88 then zb_X12_sheet_88 N (zl_X12_sheet N n) l1 l2 l3 l4 l5 l6 l7 I J else none))))) = _
  rw [if_neg (by decide), if_neg (by decide), if_neg (by decide), if_neg (by decide), if_pos rfl]
def zf_X12_sheet (N : Nat) (l1 : Int32) (l2 : Int32) (l3 : Int32) (l4 : Int32) (I : Nat → Nat → Int32) (J : Nat → Nat → Int64) : Option (Int32 × (Nat → Nat → Int32) × (Nat → Nat → Int64)) := zl_X12_sheet N N 0 l1 l2 l3 l4 0 0 0 I J
theorem zq_X12_sheet (F : zz_F) (d N : Nat) : ∀ n : Nat, (∀ (l1 : Int32) (l2 : Int32) (l3 : Int32) (l4 : Int32) (l5 : Int32) (l6 : Int32) (l7 : Int32) (I : Nat → Nat → Int32) (J : Nat → Nat → Int64) (r : Int32 × (Nat → Nat → Int32) × (Nat → Nat → Int64)), zl_X12_sheet N n 0 l1 l2 l3 l4 l5 l6 l7 I J = some r → zz_run (d+1) 239 0 [some (.ref 52), some (.int l1), some (.int l2), some (.int l3), some (.int l4), none, none, none, none, none] [] (zz_S F I J) (some (.int r.1)) (zz_S F (r.2.1) J)) ∧ (∀ (l1 : Int32) (l2 : Int32) (l3 : Int32) (l4 : Int32) (l5 : Int32) (l6 : Int32) (l7 : Int32) (I : Nat → Nat → Int32) (J : Nat → Nat → Int64) (r : Int32 × (Nat → Nat → Int32) × (Nat → Nat → Int64)), zl_X12_sheet N n 20 l1 l2 l3 l4 l5 l6 l7 I J = some r → zz_run (d+1) 239 20 [some (.ref 52), none, none, none, none, none, none, none, none, none] [] (zz_S F I J) (some (.int r.1)) (zz_S F (r.2.1) J)) ∧ (∀ (l1 : Int32) (l2 : Int32) (l3 : Int32) (l4 : Int32) (l5 : Int32) (l6 : Int32) (l7 : Int32) (I : Nat → Nat → Int32) (J : Nat → Nat → Int64) (r : Int32 × (Nat → Nat → Int32) × (Nat → Nat → Int64)), zl_X12_sheet N n 34 l1 l2 l3 l4 l5 l6 l7 I J = some r → zz_run (d+1) 239 34 [some (.ref 52), some (.int l1), some (.int l2), some (.int l3), some (.int l4), none, none, none, none, none] [] (zz_S F I J) (some (.int r.1)) (zz_S F (r.2.1) J)) ∧ (∀ (l1 : Int32) (l2 : Int32) (l3 : Int32) (l4 : Int32) (l5 : Int32) (l6 : Int32) (l7 : Int32) (I : Nat → Nat → Int32) (J : Nat → Nat → Int64) (r : Int32 × (Nat → Nat → Int32) × (Nat → Nat → Int64)), zl_X12_sheet N n 43 l1 l2 l3 l4 l5 l6 l7 I J = some r → zz_run (d+1) 239 43 [some (.ref 52), some (.int l1), some (.int l2), none, some (.int l4), some (.int l5), some (.int l6), some (.int l7), none, none] [] (zz_S F I J) (some (.int r.1)) (zz_S F (r.2.1) J)) ∧ (∀ (l1 : Int32) (l2 : Int32) (l3 : Int32) (l4 : Int32) (l5 : Int32) (l6 : Int32) (l7 : Int32) (I : Nat → Nat → Int32) (J : Nat → Nat → Int64) (r : Int32 × (Nat → Nat → Int32) × (Nat → Nat → Int64)), zl_X12_sheet N n 88 l1 l2 l3 l4 l5 l6 l7 I J = some r → zz_run (d+1) 239 88 [some (.ref 52), some (.int l1), some (.int l2), none, some (.int l4), some (.int l5), some (.int l6), some (.int l7), none, none] [] (zz_S F I J) (some (.int r.1)) (zz_S F (r.2.1) J)) := by
  intro n
  induction n with
  | zero => exact ⟨fun _ _ _ _ _ _ _ _ _ _ h => zz_no h, fun _ _ _ _ _ _ _ _ _ _ h => zz_no h, fun _ _ _ _ _ _ _ _ _ _ h => zz_no h, fun _ _ _ _ _ _ _ _ _ _ h => zz_no h, fun _ _ _ _ _ _ _ _ _ _ h => zz_no h⟩
  | succ n ih =>
    obtain ⟨ih0, ih20, ih34, ih43, ih88⟩ := ih
    refine ⟨?_, ?_, ?_, ?_, ?_⟩
    · intro l1 l2 l3 l4 l5 l6 l7 I J r hr
      rw [ze_X12_sheet_0] at hr
      unfold zb_X12_sheet_0 at hr
      refine zs_239_0 ?_
      refine And.intro (rfl) (And.intro (rfl) (And.intro (And.intro rfl rfl) (And.intro (Nat.le_of_ble_eq_true rfl) (And.intro (Nat.le_of_ble_eq_true rfl) (And.intro (Nat.le_of_ble_eq_true rfl) ?_)))))
      refine Exists.intro _ (Exists.intro _ (And.intro (zr_X12_in F (zz_u I 52 7 0) J d l1 0 3) ?_))
      refine And.intro (fun (h1 : (zv_X12_in l1 0 3) = 0) => ?_) (fun (h1 : ¬ ((zv_X12_in l1 0 3) = 0)) => ?_)
      · rw [if_pos h1] at hr
        exact zz_wk [true, false, false, false, false, false, false, false, false, false] rfl (ih20 _ _ _ _ _ _ _ _ _ _ hr)
      · rw [if_neg h1] at hr
        refine And.intro (fun (h2 : l2 ≤ 12) => ?_) (fun (h2 : ¬ (l2 ≤ 12)) => ?_)
        · rw [if_pos h2] at hr
          show zz_run _ 239 22 [some (.ref 52), some (.int l1), some (.int l2), some (.int l3), some (.int l4), none, none, none, none, none] [] (zz_S F (zz_u I 52 7 0) J) _ _
          refine zs_239_22 ?_
          refine And.intro (fun (h3 : 3 ≤ l1) => ?_) (fun (h3 : ¬ (3 ≤ l1)) => ?_)
          · rw [if_pos h3] at hr
            exact zz_wk [true, true, true, true, true, false, false, false, false, false] rfl (ih34 _ _ _ _ _ _ _ _ _ _ hr)
          · rw [if_neg h3] at hr
            refine And.intro (fun (h4 : 0 ≤ l2) => ?_) (fun (h4 : ¬ (0 ≤ l2)) => ?_)
            · rw [if_pos h4] at hr
              exact zz_wk [true, true, true, true, true, false, false, false, false, false] rfl (ih34 _ _ _ _ _ _ _ _ _ _ hr)
            · rw [if_neg h4] at hr
              replace hr := Option.some.inj hr
              subst hr
              exact And.intro rfl (And.intro rfl rfl)
        · rw [if_neg h2] at hr
          exact zz_wk [true, false, false, false, false, false, false, false, false, false] rfl (ih20 _ _ _ _ _ _ _ _ _ _ hr)
    · intro l1 l2 l3 l4 l5 l6 l7 I J r hr
      rw [ze_X12_sheet_20] at hr
      unfold zb_X12_sheet_20 at hr
      refine zs_239_20 ?_
      replace hr := Option.some.inj hr
      subst hr
      exact And.intro rfl (And.intro rfl rfl)
    · intro l1 l2 l3 l4 l5 l6 l7 I J r hr
      rw [ze_X12_sheet_34] at hr
      unfold zb_X12_sheet_34 at hr
      refine zs_239_34 ?_
      exact zz_wk [true, true, true, false, true, true, true, true, false, false] rfl (ih43 _ _ _ _ _ _ _ _ _ _ hr)
    · intro l1 l2 l3 l4 l5 l6 l7 I J r hr
      rw [ze_X12_sheet_43] at hr
      unfold zb_X12_sheet_43 at hr
      refine zs_239_43 ?_
      refine And.intro (rfl) (And.intro (fun (h5 : (I 52 1) ≤ l7) => ?_) (fun (h5 : ¬ ((I 52 1) ≤ l7)) => ?_))
      · rw [if_pos h5] at hr
        show zz_run _ 239 139 [some (.ref 52), some (.int l1), some (.int l2), none, some (.int l4), some (.int l5), some (.int l6), some (.int l7), none, none] [] (zz_S F I J) _ _
        refine zs_239_139 ?_
        refine And.intro (fun (h6 : ¬ l1 = 3) => ?_) (fun (h6 : ¬ (¬ l1 = 3)) => ?_)
        · rw [if_pos h6] at hr
          show zz_run _ 239 149 [some (.ref 52), some (.int l1), some (.int l2), none, some (.int l4), some (.int l5), some (.int l6), some (.int l7), none, none] [] (zz_S F I J) _ _
          refine zs_239_149 ?_
          show zz_run _ 239 151 [some (.ref 52), some (.int l1), some (.int l2), none, some (.int l4), some (.int l5), some (.int l6), some (.int l7), none, none] [.int l5] (zz_S F I J) _ _
          refine zs_239_151 ?_
          replace hr := Option.some.inj hr
          subst hr
          exact And.intro rfl (And.intro rfl rfl)
        · rw [if_neg h6] at hr
          show zz_run _ 239 151 [some (.ref 52), some (.int l1), some (.int l2), none, some (.int l4), some (.int l5), some (.int l6), some (.int l7), none, none] [.int ((-3))] (zz_S F I J) _ _
          refine zs_239_151 ?_
          replace hr := Option.some.inj hr
          subst hr
          exact And.intro rfl (And.intro rfl rfl)
      · rw [if_neg h5] at hr
        refine And.intro (fun (h7 : ¬ l1 = 0) => ?_) (fun (h7 : ¬ (¬ l1 = 0)) => ?_)
        · rw [if_pos h7] at hr
          show zz_run _ 239 62 [some (.ref 52), some (.int l1), some (.int l2), none, some (.int l4), some (.int l5), some (.int l6), some (.int l7), none, none] [] (zz_S F I J) _ _
          refine zs_239_62 ?_
          refine And.intro (fun (h8 : ¬ l1 = 1) => ?_) (fun (h8 : ¬ (¬ l1 = 1)) => ?_)
          · rw [if_pos h8] at hr
            show zz_run _ 239 73 [some (.ref 52), some (.int l1), some (.int l2), none, some (.int l4), some (.int l5), some (.int l6), some (.int l7), none, none] [] (zz_S F I J) _ _
            refine zs_239_73 ?_
            show zz_run _ 239 75 [some (.ref 52), some (.int l1), some (.int l2), none, some (.int l4), some (.int l5), some (.int l6), some (.int l7), none, none] [.int l6] (zz_S F I J) _ _
            refine zs_239_75 ?_
            refine And.intro (fun (h9 : l1 = 3) => ?_) (fun (h9 : ¬ (l1 = 3)) => ?_)
            · rw [if_pos h9] at hr
              exact zz_wk [true, true, true, false, true, true, true, true, false, false] rfl (ih88 _ _ _ _ _ _ _ _ _ _ hr)
            · rw [if_neg h9] at hr
              refine And.intro (fun (h10 : l7 < l2) => ?_) (fun (h10 : ¬ (l7 < l2)) => ?_)
              · rw [if_pos h10] at hr
                show zz_run _ 239 92 [some (.ref 52), some (.int l1), some (.int l2), none, some (.int l4), some (.int l5), some (.int l6), some (.int l7), some (.int l6), none] [] (zz_S F I J) _ _
                refine zs_239_92 ?_
                refine And.intro (Nat.le_of_ble_eq_true rfl) (And.intro (Nat.le_of_ble_eq_true rfl) (And.intro (Nat.le_of_ble_eq_true rfl) ?_))
                refine Exists.intro _ (Exists.intro _ (And.intro (zr_min F I J d 9 l6) ?_))
                refine And.intro (Nat.le_of_ble_eq_true rfl) (And.intro (Nat.le_of_ble_eq_true rfl) (And.intro (Nat.le_of_ble_eq_true rfl) ?_))
                refine Exists.intro _ (Exists.intro _ (And.intro (zr_max F I J d 1 (zz_min 9 l6)) ?_))
                show zz_run _ 239 103 [some (.ref 52), some (.int l1), some (.int l2), none, some (.int l4), some (.int l5), some (.int l6), some (.int l7), some (.int l6), none] [.int (zz_max 1 (zz_min 9 l6))] (zz_S F I J) _ _
                refine zs_239_103 ?_
                refine And.intro (rfl) (And.intro (rfl) ?_)
                have g1 : ¬ (((7 * l7) + 1) < 0 ∨ 84 ≤ ((7 * l7) + 1).toNatClampNeg) := zz_g hr
                replace hr := zz_gt hr
                refine And.intro (g1) ?_
                exact zz_wk [true, true, true, false, true, true, true, true, false, false] rfl (ih43 _ _ _ _ _ _ _ _ _ _ hr)
              · rw [if_neg h10] at hr
                exact zz_wk [true, true, true, false, true, true, true, true, false, false] rfl (ih88 _ _ _ _ _ _ _ _ _ _ hr)
          · rw [if_neg h8] at hr
            show zz_run _ 239 75 [some (.ref 52), some (.int l1), some (.int l2), none, some (.int l4), some (.int l5), some (.int l6), some (.int l7), none, none] [.int l6.toInt16.toInt32] (zz_S F I J) _ _
            refine zs_239_75 ?_
            refine And.intro (fun (h11 : l1 = 3) => ?_) (fun (h11 : ¬ (l1 = 3)) => ?_)
            · rw [if_pos h11] at hr
              exact zz_wk [true, true, true, false, true, true, true, true, false, false] rfl (ih88 _ _ _ _ _ _ _ _ _ _ hr)
            · rw [if_neg h11] at hr
              refine And.intro (fun (h12 : l7 < l2) => ?_) (fun (h12 : ¬ (l7 < l2)) => ?_)
              · rw [if_pos h12] at hr
                show zz_run _ 239 92 [some (.ref 52), some (.int l1), some (.int l2), none, some (.int l4), some (.int l5), some (.int l6), some (.int l7), some (.int l6.toInt16.toInt32), none] [] (zz_S F I J) _ _
                refine zs_239_92 ?_
                refine And.intro (Nat.le_of_ble_eq_true rfl) (And.intro (Nat.le_of_ble_eq_true rfl) (And.intro (Nat.le_of_ble_eq_true rfl) ?_))
                refine Exists.intro _ (Exists.intro _ (And.intro (zr_min F I J d 9 l6.toInt16.toInt32) ?_))
                refine And.intro (Nat.le_of_ble_eq_true rfl) (And.intro (Nat.le_of_ble_eq_true rfl) (And.intro (Nat.le_of_ble_eq_true rfl) ?_))
                refine Exists.intro _ (Exists.intro _ (And.intro (zr_max F I J d 1 (zz_min 9 l6.toInt16.toInt32)) ?_))
                show zz_run _ 239 103 [some (.ref 52), some (.int l1), some (.int l2), none, some (.int l4), some (.int l5), some (.int l6), some (.int l7), some (.int l6.toInt16.toInt32), none] [.int (zz_max 1 (zz_min 9 l6.toInt16.toInt32))] (zz_S F I J) _ _
                refine zs_239_103 ?_
                refine And.intro (rfl) (And.intro (rfl) ?_)
                have g2 : ¬ (((7 * l7) + 1) < 0 ∨ 84 ≤ ((7 * l7) + 1).toNatClampNeg) := zz_g hr
                replace hr := zz_gt hr
                refine And.intro (g2) ?_
                exact zz_wk [true, true, true, false, true, true, true, true, false, false] rfl (ih43 _ _ _ _ _ _ _ _ _ _ hr)
              · rw [if_neg h12] at hr
                exact zz_wk [true, true, true, false, true, true, true, true, false, false] rfl (ih88 _ _ _ _ _ _ _ _ _ _ hr)
        · rw [if_neg h7] at hr
          show zz_run _ 239 75 [some (.ref 52), some (.int l1), some (.int l2), none, some (.int l4), some (.int l5), some (.int l6), some (.int l7), none, none] [.int l6.toInt8.toInt32] (zz_S F I J) _ _
          refine zs_239_75 ?_
          refine And.intro (fun (h13 : l1 = 3) => ?_) (fun (h13 : ¬ (l1 = 3)) => ?_)
          · rw [if_pos h13] at hr
            exact zz_wk [true, true, true, false, true, true, true, true, false, false] rfl (ih88 _ _ _ _ _ _ _ _ _ _ hr)
          · rw [if_neg h13] at hr
            refine And.intro (fun (h14 : l7 < l2) => ?_) (fun (h14 : ¬ (l7 < l2)) => ?_)
            · rw [if_pos h14] at hr
              show zz_run _ 239 92 [some (.ref 52), some (.int l1), some (.int l2), none, some (.int l4), some (.int l5), some (.int l6), some (.int l7), some (.int l6.toInt8.toInt32), none] [] (zz_S F I J) _ _
              refine zs_239_92 ?_
              refine And.intro (Nat.le_of_ble_eq_true rfl) (And.intro (Nat.le_of_ble_eq_true rfl) (And.intro (Nat.le_of_ble_eq_true rfl) ?_))
              refine Exists.intro _ (Exists.intro _ (And.intro (zr_min F I J d 9 l6.toInt8.toInt32) ?_))
              refine And.intro (Nat.le_of_ble_eq_true rfl) (And.intro (Nat.le_of_ble_eq_true rfl) (And.intro (Nat.le_of_ble_eq_true rfl) ?_))
              refine Exists.intro _ (Exists.intro _ (And.intro (zr_max F I J d 1 (zz_min 9 l6.toInt8.toInt32)) ?_))
              show zz_run _ 239 103 [some (.ref 52), some (.int l1), some (.int l2), none, some (.int l4), some (.int l5), some (.int l6), some (.int l7), some (.int l6.toInt8.toInt32), none] [.int (zz_max 1 (zz_min 9 l6.toInt8.toInt32))] (zz_S F I J) _ _
              refine zs_239_103 ?_
              refine And.intro (rfl) (And.intro (rfl) ?_)
              have g3 : ¬ (((7 * l7) + 1) < 0 ∨ 84 ≤ ((7 * l7) + 1).toNatClampNeg) := zz_g hr
              replace hr := zz_gt hr
              refine And.intro (g3) ?_
              exact zz_wk [true, true, true, false, true, true, true, true, false, false] rfl (ih43 _ _ _ _ _ _ _ _ _ _ hr)
            · rw [if_neg h14] at hr
              exact zz_wk [true, true, true, false, true, true, true, true, false, false] rfl (ih88 _ _ _ _ _ _ _ _ _ _ hr)
    · intro l1 l2 l3 l4 l5 l6 l7 I J r hr
      rw [ze_X12_sheet_88] at hr
      unfold zb_X12_sheet_88 at hr
      refine zs_239_88 ?_
      show zz_run _ 239 103 [some (.ref 52), some (.int l1), some (.int l2), none, some (.int l4), some (.int l5), some (.int l6), some (.int l7), none, none] [.int 1] (zz_S F I J) _ _
      refine zs_239_103 ?_
      refine And.intro (rfl) (And.intro (rfl) ?_)
      have g4 : ¬ (((7 * l7) + 1) < 0 ∨ 84 ≤ ((7 * l7) + 1).toNatClampNeg) := zz_g hr
      replace hr := zz_gt hr
      refine And.intro (g4) ?_
      exact zz_wk [true, true, true, false, true, true, true, true, false, false] rfl (ih43 _ _ _ _ _ _ _ _ _ _ hr)
theorem zr_X12_sheet (F : zz_F) (I : Nat → Nat → Int32) (J : Nat → Nat → Int64) (d N : Nat) (l1 : Int32) (l2 : Int32) (l3 : Int32) (l4 : Int32) (r : Int32 × (Nat → Nat → Int32) × (Nat → Nat → Int64)) (h : zf_X12_sheet N l1 l2 l3 l4 I J = some r) : zz_run (d+1) 239 0 [some (.ref 52), some (.int l1), some (.int l2), some (.int l3), some (.int l4), none, none, none, none, none] [] (zz_S F I J) (some (.int r.1)) (zz_S F (r.2.1) J) := (zq_X12_sheet F d N N).1 l1 l2 l3 l4 0 0 0 I J r h
def zb_X12_readAct_0 (N : Nat) (rec : Nat → Int32 → (Nat → Nat → Int32) → (Nat → Nat → Int64) → zz_F → Option (Int32 × (Nat → Nat → Int32) × (Nat → Nat → Int64) × zz_F)) (l1 : Int32) (I : Nat → Nat → Int32) (J : Nat → Nat → Int64) (F : zz_F) : Option (Int32 × (Nat → Nat → Int32) × (Nat → Nat → Int64) × zz_F) := (zf_X12_here N  I J F).bind fun r1 => if r1.1 = 48 then (if ¬ (l1 < 0 ∨ 160 ≤ l1.toNatClampNeg) then (if ¬ r1.1 = 120 then (if ¬ r1.1 = 119 then (some (0, zz_u (zz_u r1.2.1 52 11 ((r1.2.1 52 11) + 1)) 64 l1.toNatClampNeg r1.1, r1.2.2.1, r1.2.2.2)) else ((zf_X12_oneOf N 48 10 (zz_u (zz_u r1.2.1 52 11 ((r1.2.1 52 11) + 1)) 64 l1.toNatClampNeg r1.1) r1.2.2.1 r1.2.2.2).bind fun r3 => if ¬ ((l1 + 1) < 0 ∨ 160 ≤ (l1 + 1).toNatClampNeg) then (some (0, zz_u r3.2.1 64 ((l1 + 1).toNatClampNeg) r3.1, r3.2.2.1, r3.2.2.2)) else none)) else ((zf_X12_oneOf N 97 12 (zz_u (zz_u r1.2.1 52 11 ((r1.2.1 52 11) + 1)) 64 l1.toNatClampNeg r1.1) r1.2.2.1 r1.2.2.2).bind fun r5 => if ¬ ((l1 + 1) < 0 ∨ 160 ≤ (l1 + 1).toNatClampNeg) then (if ¬ r1.1 = 119 then (some (0, zz_u r5.2.1 64 ((l1 + 1).toNatClampNeg) r5.1, r5.2.2.1, r5.2.2.2)) else ((zf_X12_oneOf N 48 10 (zz_u r5.2.1 64 ((l1 + 1).toNatClampNeg) r5.1) r5.2.2.1 r5.2.2.2).bind fun r7 => some (0, zz_u r7.2.1 64 ((l1 + 1).toNatClampNeg) r7.1, r7.2.2.1, r7.2.2.2))) else none)) else none) else (if r1.1 = 49 then (if ¬ (l1 < 0 ∨ 160 ≤ l1.toNatClampNeg) then (if ¬ r1.1 = 120 then (if ¬ r1.1 = 119 then (some (0, zz_u (zz_u r1.2.1 52 11 ((r1.2.1 52 11) + 1)) 64 l1.toNatClampNeg r1.1, r1.2.2.1, r1.2.2.2)) else ((zf_X12_oneOf N 48 10 (zz_u (zz_u r1.2.1 52 11 ((r1.2.1 52 11) + 1)) 64 l1.toNatClampNeg r1.1) r1.2.2.1 r1.2.2.2).bind fun r9 => if ¬ ((l1 + 1) < 0 ∨ 160 ≤ (l1 + 1).toNatClampNeg) then (some (0, zz_u r9.2.1 64 ((l1 + 1).toNatClampNeg) r9.1, r9.2.2.1, r9.2.2.2)) else none)) else ((zf_X12_oneOf N 97 12 (zz_u (zz_u r1.2.1 52 11 ((r1.2.1 52 11) + 1)) 64 l1.toNatClampNeg r1.1) r1.2.2.1 r1.2.2.2).bind fun r11 => if ¬ ((l1 + 1) < 0 ∨ 160 ≤ (l1 + 1).toNatClampNeg) then (if ¬ r1.1 = 119 then (some (0, zz_u r11.2.1 64 ((l1 + 1).toNatClampNeg) r11.1, r11.2.2.1, r11.2.2.2)) else ((zf_X12_oneOf N 48 10 (zz_u r11.2.1 64 ((l1 + 1).toNatClampNeg) r11.1) r11.2.2.1 r11.2.2.2).bind fun r13 => some (0, zz_u r13.2.1 64 ((l1 + 1).toNatClampNeg) r13.1, r13.2.2.1, r13.2.2.2))) else none)) else none) else (if r1.1 = 120 then (if ¬ (l1 < 0 ∨ 160 ≤ l1.toNatClampNeg) then (if ¬ r1.1 = 120 then (if ¬ r1.1 = 119 then (some (0, zz_u (zz_u r1.2.1 52 11 ((r1.2.1 52 11) + 1)) 64 l1.toNatClampNeg r1.1, r1.2.2.1, r1.2.2.2)) else ((zf_X12_oneOf N 48 10 (zz_u (zz_u r1.2.1 52 11 ((r1.2.1 52 11) + 1)) 64 l1.toNatClampNeg r1.1) r1.2.2.1 r1.2.2.2).bind fun r15 => if ¬ ((l1 + 1) < 0 ∨ 160 ≤ (l1 + 1).toNatClampNeg) then (some (0, zz_u r15.2.1 64 ((l1 + 1).toNatClampNeg) r15.1, r15.2.2.1, r15.2.2.2)) else none)) else ((zf_X12_oneOf N 97 12 (zz_u (zz_u r1.2.1 52 11 ((r1.2.1 52 11) + 1)) 64 l1.toNatClampNeg r1.1) r1.2.2.1 r1.2.2.2).bind fun r17 => if ¬ ((l1 + 1) < 0 ∨ 160 ≤ (l1 + 1).toNatClampNeg) then (if ¬ r1.1 = 119 then (some (0, zz_u r17.2.1 64 ((l1 + 1).toNatClampNeg) r17.1, r17.2.2.1, r17.2.2.2)) else ((zf_X12_oneOf N 48 10 (zz_u r17.2.1 64 ((l1 + 1).toNatClampNeg) r17.1) r17.2.2.1 r17.2.2.2).bind fun r19 => some (0, zz_u r19.2.1 64 ((l1 + 1).toNatClampNeg) r19.1, r19.2.2.1, r19.2.2.2))) else none)) else none) else (if r1.1 = 119 then (if ¬ (l1 < 0 ∨ 160 ≤ l1.toNatClampNeg) then (if ¬ r1.1 = 120 then (if ¬ r1.1 = 119 then (some (0, zz_u (zz_u r1.2.1 52 11 ((r1.2.1 52 11) + 1)) 64 l1.toNatClampNeg r1.1, r1.2.2.1, r1.2.2.2)) else ((zf_X12_oneOf N 48 10 (zz_u (zz_u r1.2.1 52 11 ((r1.2.1 52 11) + 1)) 64 l1.toNatClampNeg r1.1) r1.2.2.1 r1.2.2.2).bind fun r21 => if ¬ ((l1 + 1) < 0 ∨ 160 ≤ (l1 + 1).toNatClampNeg) then (some (0, zz_u r21.2.1 64 ((l1 + 1).toNatClampNeg) r21.1, r21.2.2.1, r21.2.2.2)) else none)) else ((zf_X12_oneOf N 97 12 (zz_u (zz_u r1.2.1 52 11 ((r1.2.1 52 11) + 1)) 64 l1.toNatClampNeg r1.1) r1.2.2.1 r1.2.2.2).bind fun r23 => if ¬ ((l1 + 1) < 0 ∨ 160 ≤ (l1 + 1).toNatClampNeg) then (if ¬ r1.1 = 119 then (some (0, zz_u r23.2.1 64 ((l1 + 1).toNatClampNeg) r23.1, r23.2.2.1, r23.2.2.2)) else ((zf_X12_oneOf N 48 10 (zz_u r23.2.1 64 ((l1 + 1).toNatClampNeg) r23.1) r23.2.2.1 r23.2.2.2).bind fun r25 => some (0, zz_u r25.2.1 64 ((l1 + 1).toNatClampNeg) r25.1, r25.2.2.1, r25.2.2.2))) else none)) else none) else (some (0, zw_X12_fault r1.2.1 (r1.2.1 52 11), r1.2.2.1, r1.2.2.2)))))
def zl_X12_readAct (N : Nat) : Nat → Nat → Int32 → (Nat → Nat → Int32) → (Nat → Nat → Int64) → zz_F → Option (Int32 × (Nat → Nat → Int32) × (Nat → Nat → Int64) × zz_F)
  | 0 => fun _ _ _ _ _ => none
  | n + 1 => fun pc l1 I J F => if pc = 0 then zb_X12_readAct_0 N (zl_X12_readAct N n) l1 I J F else none
theorem ze_X12_readAct_0 (N : Nat) (n : Nat) (l1 : Int32) (I : Nat → Nat → Int32) (J : Nat → Nat → Int64) (F : zz_F) : zl_X12_readAct N (n+1) 0 l1 I J F = zb_X12_readAct_0 N (zl_X12_readAct N n) l1 I J F := by
  show (if 0 = 0 then zb_X12_readAct_0 N (zl_X12_readAct N n) l1 I J F else none) = _
  rw [if_pos rfl]
def zf_X12_readAct (N : Nat) (l1 : Int32) (I : Nat → Nat → Int32) (J : Nat → Nat → Int64) (F : zz_F) : Option (Int32 × (Nat → Nat → Int32) × (Nat → Nat → Int64) × zz_F) := zl_X12_readAct N N 0 l1 I J F
theorem zq_X12_readAct (d N : Nat) : ∀ n : Nat, (∀ (l1 : Int32) (I : Nat → Nat → Int32) (J : Nat → Nat → Int64) (F : zz_F) (r : Int32 × (Nat → Nat → Int32) × (Nat → Nat → Int64) × zz_F), zl_X12_readAct N n 0 l1 I J F = some r → zz_run (d+3) 253 0 [some (.ref 52), some (.int l1), none] [] (zz_S F I J) none (zz_S (r.2.2.2) (r.2.1) (r.2.2.1))) := by
  intro n
  induction n with
  | zero => exact fun _ _ _ _ _ h => zz_no h
  | succ n ih =>
    have ih0 := ih
    skip
    · intro l1 I J F r hr
      rw [ze_X12_readAct_0] at hr
      unfold zb_X12_readAct_0 at hr
      refine zs_253_0 ?_
      refine And.intro (rfl) (And.intro (Nat.le_of_ble_eq_true rfl) (And.intro (Nat.le_of_ble_eq_true rfl) (And.intro (Nat.le_of_ble_eq_true rfl) ?_)))
      obtain ⟨r1, cr1, hr⟩ := Option.bind_eq_some_iff.mp hr
      refine Exists.intro _ (Exists.intro _ (And.intro (zr_X12_here (d+2) N  I J F r1 cr1) ?_))
      refine And.intro (fun (h1 : r1.1 = 48) => ?_) (fun (h1 : ¬ (r1.1 = 48)) => ?_)
      · rw [if_pos h1] at hr
        show zz_run _ 253 38 [some (.ref 52), some (.int l1), some (.int r1.1)] [] (zz_S r1.2.2.2 r1.2.1 r1.2.2.1) _ _
        refine zs_253_38 ?_
        refine And.intro (rfl) (And.intro (rfl) (And.intro (rfl) (And.intro (rfl) (And.intro (And.intro rfl rfl) (And.intro (rfl) ?_)))))
        refine And.intro (rfl) ?_
        have g2 : ¬ (l1 < 0 ∨ 160 ≤ l1.toNatClampNeg) := zz_g hr
        replace hr := zz_gt hr
        refine And.intro (g2) (And.intro (fun (h2 : ¬ r1.1 = 120) => ?_) (fun (h2 : ¬ (¬ r1.1 = 120)) => ?_))
        · rw [if_pos h2] at hr
          show zz_run _ 253 77 [some (.ref 52), some (.int l1), some (.int r1.1)] [] (zz_S r1.2.2.2 (zz_u (zz_u r1.2.1 52 11 ((r1.2.1 52 11) + 1)) 64 l1.toNatClampNeg r1.1) r1.2.2.1) _ _
          refine zs_253_77 ?_
          refine And.intro (fun (h3 : ¬ r1.1 = 119) => ?_) (fun (h3 : ¬ (¬ r1.1 = 119)) => ?_)
          · rw [if_pos h3] at hr
            show zz_run _ 253 99 [some (.ref 52), some (.int l1), some (.int r1.1)] [] (zz_S r1.2.2.2 (zz_u (zz_u r1.2.1 52 11 ((r1.2.1 52 11) + 1)) 64 l1.toNatClampNeg r1.1) r1.2.2.1) _ _
            refine zs_253_99 ?_
            replace hr := Option.some.inj hr
            subst hr
            exact And.intro rfl (And.intro rfl rfl)
          · rw [if_neg h3] at hr
            refine And.intro (rfl) (And.intro (rfl) (And.intro (Nat.le_of_ble_eq_true rfl) (And.intro (Nat.le_of_ble_eq_true rfl) (And.intro (Nat.le_of_ble_eq_true rfl) ?_))))
            obtain ⟨r3, cr3, hr⟩ := Option.bind_eq_some_iff.mp hr
            refine Exists.intro _ (Exists.intro _ (And.intro (zr_X12_oneOf d N 48 10 (zz_u (zz_u r1.2.1 52 11 ((r1.2.1 52 11) + 1)) 64 l1.toNatClampNeg r1.1) r1.2.2.1 r1.2.2.2 r3 cr3) ?_))
            refine And.intro (rfl) ?_
            have g4 : ¬ ((l1 + 1) < 0 ∨ 160 ≤ (l1 + 1).toNatClampNeg) := zz_g hr
            replace hr := zz_gt hr
            refine And.intro (g4) ?_
            show zz_run _ 253 99 [some (.ref 52), some (.int l1), some (.int r1.1)] [] (zz_S r3.2.2.2 (zz_u r3.2.1 64 ((l1 + 1).toNatClampNeg) r3.1) r3.2.2.1) _ _
            refine zs_253_99 ?_
            replace hr := Option.some.inj hr
            subst hr
            exact And.intro rfl (And.intro rfl rfl)
        · rw [if_neg h2] at hr
          refine And.intro (rfl) (And.intro (rfl) (And.intro (Nat.le_of_ble_eq_true rfl) (And.intro (Nat.le_of_ble_eq_true rfl) (And.intro (Nat.le_of_ble_eq_true rfl) ?_))))
          obtain ⟨r5, cr5, hr⟩ := Option.bind_eq_some_iff.mp hr
          refine Exists.intro _ (Exists.intro _ (And.intro (zr_X12_oneOf d N 97 12 (zz_u (zz_u r1.2.1 52 11 ((r1.2.1 52 11) + 1)) 64 l1.toNatClampNeg r1.1) r1.2.2.1 r1.2.2.2 r5 cr5) ?_))
          refine And.intro (rfl) ?_
          have g6 : ¬ ((l1 + 1) < 0 ∨ 160 ≤ (l1 + 1).toNatClampNeg) := zz_g hr
          replace hr := zz_gt hr
          refine And.intro (g6) ?_
          show zz_run _ 253 77 [some (.ref 52), some (.int l1), some (.int r1.1)] [] (zz_S r5.2.2.2 (zz_u r5.2.1 64 ((l1 + 1).toNatClampNeg) r5.1) r5.2.2.1) _ _
          refine zs_253_77 ?_
          refine And.intro (fun (h4 : ¬ r1.1 = 119) => ?_) (fun (h4 : ¬ (¬ r1.1 = 119)) => ?_)
          · rw [if_pos h4] at hr
            show zz_run _ 253 99 [some (.ref 52), some (.int l1), some (.int r1.1)] [] (zz_S r5.2.2.2 (zz_u r5.2.1 64 ((l1 + 1).toNatClampNeg) r5.1) r5.2.2.1) _ _
            refine zs_253_99 ?_
            replace hr := Option.some.inj hr
            subst hr
            exact And.intro rfl (And.intro rfl rfl)
          · rw [if_neg h4] at hr
            refine And.intro (rfl) (And.intro (rfl) (And.intro (Nat.le_of_ble_eq_true rfl) (And.intro (Nat.le_of_ble_eq_true rfl) (And.intro (Nat.le_of_ble_eq_true rfl) ?_))))
            obtain ⟨r7, cr7, hr⟩ := Option.bind_eq_some_iff.mp hr
            refine Exists.intro _ (Exists.intro _ (And.intro (zr_X12_oneOf d N 48 10 (zz_u r5.2.1 64 ((l1 + 1).toNatClampNeg) r5.1) r5.2.2.1 r5.2.2.2 r7 cr7) ?_))
            refine And.intro (rfl) (And.intro (g6) ?_)
            show zz_run _ 253 99 [some (.ref 52), some (.int l1), some (.int r1.1)] [] (zz_S r7.2.2.2 (zz_u r7.2.1 64 ((l1 + 1).toNatClampNeg) r7.1) r7.2.2.1) _ _
            refine zs_253_99 ?_
            replace hr := Option.some.inj hr
            subst hr
            exact And.intro rfl (And.intro rfl rfl)
      · rw [if_neg h1] at hr
        refine And.intro (fun (h5 : r1.1 = 49) => ?_) (fun (h5 : ¬ (r1.1 = 49)) => ?_)
        · rw [if_pos h5] at hr
          show zz_run _ 253 38 [some (.ref 52), some (.int l1), some (.int r1.1)] [] (zz_S r1.2.2.2 r1.2.1 r1.2.2.1) _ _
          refine zs_253_38 ?_
          refine And.intro (rfl) (And.intro (rfl) (And.intro (rfl) (And.intro (rfl) (And.intro (And.intro rfl rfl) (And.intro (rfl) ?_)))))
          refine And.intro (rfl) ?_
          have g8 : ¬ (l1 < 0 ∨ 160 ≤ l1.toNatClampNeg) := zz_g hr
          replace hr := zz_gt hr
          refine And.intro (g8) (And.intro (fun (h6 : ¬ r1.1 = 120) => ?_) (fun (h6 : ¬ (¬ r1.1 = 120)) => ?_))
          · rw [if_pos h6] at hr
            show zz_run _ 253 77 [some (.ref 52), some (.int l1), some (.int r1.1)] [] (zz_S r1.2.2.2 (zz_u (zz_u r1.2.1 52 11 ((r1.2.1 52 11) + 1)) 64 l1.toNatClampNeg r1.1) r1.2.2.1) _ _
            refine zs_253_77 ?_
            refine And.intro (fun (h7 : ¬ r1.1 = 119) => ?_) (fun (h7 : ¬ (¬ r1.1 = 119)) => ?_)
            · rw [if_pos h7] at hr
              show zz_run _ 253 99 [some (.ref 52), some (.int l1), some (.int r1.1)] [] (zz_S r1.2.2.2 (zz_u (zz_u r1.2.1 52 11 ((r1.2.1 52 11) + 1)) 64 l1.toNatClampNeg r1.1) r1.2.2.1) _ _
              refine zs_253_99 ?_
              replace hr := Option.some.inj hr
              subst hr
              exact And.intro rfl (And.intro rfl rfl)
            · rw [if_neg h7] at hr
              refine And.intro (rfl) (And.intro (rfl) (And.intro (Nat.le_of_ble_eq_true rfl) (And.intro (Nat.le_of_ble_eq_true rfl) (And.intro (Nat.le_of_ble_eq_true rfl) ?_))))
              obtain ⟨r9, cr9, hr⟩ := Option.bind_eq_some_iff.mp hr
              refine Exists.intro _ (Exists.intro _ (And.intro (zr_X12_oneOf d N 48 10 (zz_u (zz_u r1.2.1 52 11 ((r1.2.1 52 11) + 1)) 64 l1.toNatClampNeg r1.1) r1.2.2.1 r1.2.2.2 r9 cr9) ?_))
              refine And.intro (rfl) ?_
              have g10 : ¬ ((l1 + 1) < 0 ∨ 160 ≤ (l1 + 1).toNatClampNeg) := zz_g hr
              replace hr := zz_gt hr
              refine And.intro (g10) ?_
              show zz_run _ 253 99 [some (.ref 52), some (.int l1), some (.int r1.1)] [] (zz_S r9.2.2.2 (zz_u r9.2.1 64 ((l1 + 1).toNatClampNeg) r9.1) r9.2.2.1) _ _
              refine zs_253_99 ?_
              replace hr := Option.some.inj hr
              subst hr
              exact And.intro rfl (And.intro rfl rfl)
          · rw [if_neg h6] at hr
            refine And.intro (rfl) (And.intro (rfl) (And.intro (Nat.le_of_ble_eq_true rfl) (And.intro (Nat.le_of_ble_eq_true rfl) (And.intro (Nat.le_of_ble_eq_true rfl) ?_))))
            obtain ⟨r11, cr11, hr⟩ := Option.bind_eq_some_iff.mp hr
            refine Exists.intro _ (Exists.intro _ (And.intro (zr_X12_oneOf d N 97 12 (zz_u (zz_u r1.2.1 52 11 ((r1.2.1 52 11) + 1)) 64 l1.toNatClampNeg r1.1) r1.2.2.1 r1.2.2.2 r11 cr11) ?_))
            refine And.intro (rfl) ?_
            have g12 : ¬ ((l1 + 1) < 0 ∨ 160 ≤ (l1 + 1).toNatClampNeg) := zz_g hr
            replace hr := zz_gt hr
            refine And.intro (g12) ?_
            show zz_run _ 253 77 [some (.ref 52), some (.int l1), some (.int r1.1)] [] (zz_S r11.2.2.2 (zz_u r11.2.1 64 ((l1 + 1).toNatClampNeg) r11.1) r11.2.2.1) _ _
            refine zs_253_77 ?_
            refine And.intro (fun (h8 : ¬ r1.1 = 119) => ?_) (fun (h8 : ¬ (¬ r1.1 = 119)) => ?_)
            · rw [if_pos h8] at hr
              show zz_run _ 253 99 [some (.ref 52), some (.int l1), some (.int r1.1)] [] (zz_S r11.2.2.2 (zz_u r11.2.1 64 ((l1 + 1).toNatClampNeg) r11.1) r11.2.2.1) _ _
              refine zs_253_99 ?_
              replace hr := Option.some.inj hr
              subst hr
              exact And.intro rfl (And.intro rfl rfl)
            · rw [if_neg h8] at hr
              refine And.intro (rfl) (And.intro (rfl) (And.intro (Nat.le_of_ble_eq_true rfl) (And.intro (Nat.le_of_ble_eq_true rfl) (And.intro (Nat.le_of_ble_eq_true rfl) ?_))))
              obtain ⟨r13, cr13, hr⟩ := Option.bind_eq_some_iff.mp hr
              refine Exists.intro _ (Exists.intro _ (And.intro (zr_X12_oneOf d N 48 10 (zz_u r11.2.1 64 ((l1 + 1).toNatClampNeg) r11.1) r11.2.2.1 r11.2.2.2 r13 cr13) ?_))
              refine And.intro (rfl) (And.intro (g12) ?_)
              show zz_run _ 253 99 [some (.ref 52), some (.int l1), some (.int r1.1)] [] (zz_S r13.2.2.2 (zz_u r13.2.1 64 ((l1 + 1).toNatClampNeg) r13.1) r13.2.2.1) _ _
              refine zs_253_99 ?_
              replace hr := Option.some.inj hr
              subst hr
              exact And.intro rfl (And.intro rfl rfl)
        · rw [if_neg h5] at hr
          refine And.intro (fun (h9 : r1.1 = 120) => ?_) (fun (h9 : ¬ (r1.1 = 120)) => ?_)
          · rw [if_pos h9] at hr
            show zz_run _ 253 38 [some (.ref 52), some (.int l1), some (.int r1.1)] [] (zz_S r1.2.2.2 r1.2.1 r1.2.2.1) _ _
            refine zs_253_38 ?_
            refine And.intro (rfl) (And.intro (rfl) (And.intro (rfl) (And.intro (rfl) (And.intro (And.intro rfl rfl) (And.intro (rfl) ?_)))))
            refine And.intro (rfl) ?_
            have g14 : ¬ (l1 < 0 ∨ 160 ≤ l1.toNatClampNeg) := zz_g hr
            replace hr := zz_gt hr
            refine And.intro (g14) (And.intro (fun (h10 : ¬ r1.1 = 120) => ?_) (fun (h10 : ¬ (¬ r1.1 = 120)) => ?_))
            · rw [if_pos h10] at hr
              show zz_run _ 253 77 [some (.ref 52), some (.int l1), some (.int r1.1)] [] (zz_S r1.2.2.2 (zz_u (zz_u r1.2.1 52 11 ((r1.2.1 52 11) + 1)) 64 l1.toNatClampNeg r1.1) r1.2.2.1) _ _
              refine zs_253_77 ?_
              refine And.intro (fun (h11 : ¬ r1.1 = 119) => ?_) (fun (h11 : ¬ (¬ r1.1 = 119)) => ?_)
              · rw [if_pos h11] at hr
                show zz_run _ 253 99 [some (.ref 52), some (.int l1), some (.int r1.1)] [] (zz_S r1.2.2.2 (zz_u (zz_u r1.2.1 52 11 ((r1.2.1 52 11) + 1)) 64 l1.toNatClampNeg r1.1) r1.2.2.1) _ _
                refine zs_253_99 ?_
                replace hr := Option.some.inj hr
                subst hr
                exact And.intro rfl (And.intro rfl rfl)
              · rw [if_neg h11] at hr
                refine And.intro (rfl) (And.intro (rfl) (And.intro (Nat.le_of_ble_eq_true rfl) (And.intro (Nat.le_of_ble_eq_true rfl) (And.intro (Nat.le_of_ble_eq_true rfl) ?_))))
                obtain ⟨r15, cr15, hr⟩ := Option.bind_eq_some_iff.mp hr
                refine Exists.intro _ (Exists.intro _ (And.intro (zr_X12_oneOf d N 48 10 (zz_u (zz_u r1.2.1 52 11 ((r1.2.1 52 11) + 1)) 64 l1.toNatClampNeg r1.1) r1.2.2.1 r1.2.2.2 r15 cr15) ?_))
                refine And.intro (rfl) ?_
                have g16 : ¬ ((l1 + 1) < 0 ∨ 160 ≤ (l1 + 1).toNatClampNeg) := zz_g hr
                replace hr := zz_gt hr
                refine And.intro (g16) ?_
                show zz_run _ 253 99 [some (.ref 52), some (.int l1), some (.int r1.1)] [] (zz_S r15.2.2.2 (zz_u r15.2.1 64 ((l1 + 1).toNatClampNeg) r15.1) r15.2.2.1) _ _
                refine zs_253_99 ?_
                replace hr := Option.some.inj hr
                subst hr
                exact And.intro rfl (And.intro rfl rfl)
            · rw [if_neg h10] at hr
              refine And.intro (rfl) (And.intro (rfl) (And.intro (Nat.le_of_ble_eq_true rfl) (And.intro (Nat.le_of_ble_eq_true rfl) (And.intro (Nat.le_of_ble_eq_true rfl) ?_))))
              obtain ⟨r17, cr17, hr⟩ := Option.bind_eq_some_iff.mp hr
              refine Exists.intro _ (Exists.intro _ (And.intro (zr_X12_oneOf d N 97 12 (zz_u (zz_u r1.2.1 52 11 ((r1.2.1 52 11) + 1)) 64 l1.toNatClampNeg r1.1) r1.2.2.1 r1.2.2.2 r17 cr17) ?_))
              refine And.intro (rfl) ?_
              have g18 : ¬ ((l1 + 1) < 0 ∨ 160 ≤ (l1 + 1).toNatClampNeg) := zz_g hr
              replace hr := zz_gt hr
              refine And.intro (g18) ?_
              show zz_run _ 253 77 [some (.ref 52), some (.int l1), some (.int r1.1)] [] (zz_S r17.2.2.2 (zz_u r17.2.1 64 ((l1 + 1).toNatClampNeg) r17.1) r17.2.2.1) _ _
              refine zs_253_77 ?_
              refine And.intro (fun (h12 : ¬ r1.1 = 119) => ?_) (fun (h12 : ¬ (¬ r1.1 = 119)) => ?_)
              · rw [if_pos h12] at hr
                show zz_run _ 253 99 [some (.ref 52), some (.int l1), some (.int r1.1)] [] (zz_S r17.2.2.2 (zz_u r17.2.1 64 ((l1 + 1).toNatClampNeg) r17.1) r17.2.2.1) _ _
                refine zs_253_99 ?_
                replace hr := Option.some.inj hr
                subst hr
                exact And.intro rfl (And.intro rfl rfl)
              · rw [if_neg h12] at hr
                refine And.intro (rfl) (And.intro (rfl) (And.intro (Nat.le_of_ble_eq_true rfl) (And.intro (Nat.le_of_ble_eq_true rfl) (And.intro (Nat.le_of_ble_eq_true rfl) ?_))))
                obtain ⟨r19, cr19, hr⟩ := Option.bind_eq_some_iff.mp hr
                refine Exists.intro _ (Exists.intro _ (And.intro (zr_X12_oneOf d N 48 10 (zz_u r17.2.1 64 ((l1 + 1).toNatClampNeg) r17.1) r17.2.2.1 r17.2.2.2 r19 cr19) ?_))
                refine And.intro (rfl) (And.intro (g18) ?_)
                show zz_run _ 253 99 [some (.ref 52), some (.int l1), some (.int r1.1)] [] (zz_S r19.2.2.2 (zz_u r19.2.1 64 ((l1 + 1).toNatClampNeg) r19.1) r19.2.2.1) _ _
                refine zs_253_99 ?_
                replace hr := Option.some.inj hr
                subst hr
                exact And.intro rfl (And.intro rfl rfl)
          · rw [if_neg h9] at hr
            refine And.intro (fun (h13 : r1.1 = 119) => ?_) (fun (h13 : ¬ (r1.1 = 119)) => ?_)
            · rw [if_pos h13] at hr
              show zz_run _ 253 38 [some (.ref 52), some (.int l1), some (.int r1.1)] [] (zz_S r1.2.2.2 r1.2.1 r1.2.2.1) _ _
              refine zs_253_38 ?_
              refine And.intro (rfl) (And.intro (rfl) (And.intro (rfl) (And.intro (rfl) (And.intro (And.intro rfl rfl) (And.intro (rfl) ?_)))))
              refine And.intro (rfl) ?_
              have g20 : ¬ (l1 < 0 ∨ 160 ≤ l1.toNatClampNeg) := zz_g hr
              replace hr := zz_gt hr
              refine And.intro (g20) (And.intro (fun (h14 : ¬ r1.1 = 120) => ?_) (fun (h14 : ¬ (¬ r1.1 = 120)) => ?_))
              · rw [if_pos h14] at hr
                show zz_run _ 253 77 [some (.ref 52), some (.int l1), some (.int r1.1)] [] (zz_S r1.2.2.2 (zz_u (zz_u r1.2.1 52 11 ((r1.2.1 52 11) + 1)) 64 l1.toNatClampNeg r1.1) r1.2.2.1) _ _
                refine zs_253_77 ?_
                refine And.intro (fun (h15 : ¬ r1.1 = 119) => ?_) (fun (h15 : ¬ (¬ r1.1 = 119)) => ?_)
                · rw [if_pos h15] at hr
                  show zz_run _ 253 99 [some (.ref 52), some (.int l1), some (.int r1.1)] [] (zz_S r1.2.2.2 (zz_u (zz_u r1.2.1 52 11 ((r1.2.1 52 11) + 1)) 64 l1.toNatClampNeg r1.1) r1.2.2.1) _ _
                  refine zs_253_99 ?_
                  replace hr := Option.some.inj hr
                  subst hr
                  exact And.intro rfl (And.intro rfl rfl)
                · rw [if_neg h15] at hr
                  refine And.intro (rfl) (And.intro (rfl) (And.intro (Nat.le_of_ble_eq_true rfl) (And.intro (Nat.le_of_ble_eq_true rfl) (And.intro (Nat.le_of_ble_eq_true rfl) ?_))))
                  obtain ⟨r21, cr21, hr⟩ := Option.bind_eq_some_iff.mp hr
                  refine Exists.intro _ (Exists.intro _ (And.intro (zr_X12_oneOf d N 48 10 (zz_u (zz_u r1.2.1 52 11 ((r1.2.1 52 11) + 1)) 64 l1.toNatClampNeg r1.1) r1.2.2.1 r1.2.2.2 r21 cr21) ?_))
                  refine And.intro (rfl) ?_
                  have g22 : ¬ ((l1 + 1) < 0 ∨ 160 ≤ (l1 + 1).toNatClampNeg) := zz_g hr
                  replace hr := zz_gt hr
                  refine And.intro (g22) ?_
                  show zz_run _ 253 99 [some (.ref 52), some (.int l1), some (.int r1.1)] [] (zz_S r21.2.2.2 (zz_u r21.2.1 64 ((l1 + 1).toNatClampNeg) r21.1) r21.2.2.1) _ _
                  refine zs_253_99 ?_
                  replace hr := Option.some.inj hr
                  subst hr
                  exact And.intro rfl (And.intro rfl rfl)
              · rw [if_neg h14] at hr
                refine And.intro (rfl) (And.intro (rfl) (And.intro (Nat.le_of_ble_eq_true rfl) (And.intro (Nat.le_of_ble_eq_true rfl) (And.intro (Nat.le_of_ble_eq_true rfl) ?_))))
                obtain ⟨r23, cr23, hr⟩ := Option.bind_eq_some_iff.mp hr
                refine Exists.intro _ (Exists.intro _ (And.intro (zr_X12_oneOf d N 97 12 (zz_u (zz_u r1.2.1 52 11 ((r1.2.1 52 11) + 1)) 64 l1.toNatClampNeg r1.1) r1.2.2.1 r1.2.2.2 r23 cr23) ?_))
                refine And.intro (rfl) ?_
                have g24 : ¬ ((l1 + 1) < 0 ∨ 160 ≤ (l1 + 1).toNatClampNeg) := zz_g hr
                replace hr := zz_gt hr
                refine And.intro (g24) ?_
                show zz_run _ 253 77 [some (.ref 52), some (.int l1), some (.int r1.1)] [] (zz_S r23.2.2.2 (zz_u r23.2.1 64 ((l1 + 1).toNatClampNeg) r23.1) r23.2.2.1) _ _
                refine zs_253_77 ?_
                refine And.intro (fun (h16 : ¬ r1.1 = 119) => ?_) (fun (h16 : ¬ (¬ r1.1 = 119)) => ?_)
                · rw [if_pos h16] at hr
                  show zz_run _ 253 99 [some (.ref 52), some (.int l1), some (.int r1.1)] [] (zz_S r23.2.2.2 (zz_u r23.2.1 64 ((l1 + 1).toNatClampNeg) r23.1) r23.2.2.1) _ _
                  refine zs_253_99 ?_
                  replace hr := Option.some.inj hr
                  subst hr
                  exact And.intro rfl (And.intro rfl rfl)
                · rw [if_neg h16] at hr
                  refine And.intro (rfl) (And.intro (rfl) (And.intro (Nat.le_of_ble_eq_true rfl) (And.intro (Nat.le_of_ble_eq_true rfl) (And.intro (Nat.le_of_ble_eq_true rfl) ?_))))
                  obtain ⟨r25, cr25, hr⟩ := Option.bind_eq_some_iff.mp hr
                  refine Exists.intro _ (Exists.intro _ (And.intro (zr_X12_oneOf d N 48 10 (zz_u r23.2.1 64 ((l1 + 1).toNatClampNeg) r23.1) r23.2.2.1 r23.2.2.2 r25 cr25) ?_))
                  refine And.intro (rfl) (And.intro (g24) ?_)
                  show zz_run _ 253 99 [some (.ref 52), some (.int l1), some (.int r1.1)] [] (zz_S r25.2.2.2 (zz_u r25.2.1 64 ((l1 + 1).toNatClampNeg) r25.1) r25.2.2.1) _ _
                  refine zs_253_99 ?_
                  replace hr := Option.some.inj hr
                  subst hr
                  exact And.intro rfl (And.intro rfl rfl)
            · rw [if_neg h13] at hr
              refine And.intro (rfl) (And.intro (rfl) (And.intro (Nat.le_of_ble_eq_true rfl) (And.intro (Nat.le_of_ble_eq_true rfl) (And.intro (Nat.le_of_ble_eq_true rfl) ?_))))
              refine Exists.intro _ (Exists.intro _ (And.intro (zr_X12_fault r1.2.2.2 r1.2.1 r1.2.2.1 (d+1) (r1.2.1 52 11)) ?_))
              replace hr := Option.some.inj hr
              subst hr
              exact And.intro rfl (And.intro rfl rfl)
theorem zr_X12_readAct (d N : Nat) (l1 : Int32) (I : Nat → Nat → Int32) (J : Nat → Nat → Int64) (F : zz_F) (r : Int32 × (Nat → Nat → Int32) × (Nat → Nat → Int64) × zz_F) (h : zf_X12_readAct N l1 I J F = some r) : zz_run (d+3) 253 0 [some (.ref 52), some (.int l1), none] [] (zz_S F I J) none (zz_S (r.2.2.2) (r.2.1) (r.2.2.1)) := (zq_X12_readAct d N N) l1 I J F r h
def zb_X12_guard_0 (N : Nat) (rec : Nat → Int32 → Int32 → Int32 → Int32 → (Nat → Nat → Int32) → (Nat → Nat → Int64) → Option (Int32 × (Nat → Nat → Int32) × (Nat → Nat → Int64))) (l1 : Int32) (l2 : Int32) (l3 : Int32) (l4 : Int32) (I : Nat → Nat → Int32) (J : Nat → Nat → Int64) : Option (Int32 × (Nat → Nat → Int32) × (Nat → Nat → Int64)) := (zf_X12_whereBits N 0 (zz_u I 52 7 0) J).bind fun r1 => (zf_X12_withPerson N r1.1 63 (zz_u I 52 7 0) J).bind fun r2 => rec 25 r1.1 r2.1 63 0 (zz_u I 52 7 0) J
def zb_X12_guard_25 (N : Nat) (rec : Nat → Int32 → Int32 → Int32 → Int32 → (Nat → Nat → Int32) → (Nat → Nat → Int64) → Option (Int32 × (Nat → Nat → Int32) × (Nat → Nat → Int64))) (l1 : Int32) (l2 : Int32) (l3 : Int32) (l4 : Int32) (I : Nat → Nat → Int32) (J : Nat → Nat → Int64) : Option (Int32 × (Nat → Nat → Int32) × (Nat → Nat → Int64)) := if 64 ≤ l4 then (if ¬ (((zz_u I 52 6 0) 52 6) < 0 ∨ 20 ≤ ((zz_u I 52 6 0) 52 6).toNatClampNeg) then (some (zv_J6_bitCount l3, zw_X12_tell (zz_u I 52 6 0) J l3.toInt64, zx_X12_tell (zz_u I 52 6 0) J l3.toInt64)) else none) else (if (zv_J6_bitCount l3) ≤ (zv_J6_bitCount l4) then (rec 25 l1 l2 l3 (l4 + 1) I J) else ((zf_X12_withPerson N l1 l4 I J).bind fun r4 => if ¬ r4.1 = l2 then (rec 25 l1 l2 l3 (l4 + 1) I J) else (rec 25 l1 l2 l4 (l4 + 1) I J)))
def zl_X12_guard (N : Nat) : Nat → Nat → Int32 → Int32 → Int32 → Int32 → (Nat → Nat → Int32) → (Nat → Nat → Int64) → Option (Int32 × (Nat → Nat → Int32) × (Nat → Nat → Int64))
  | 0 => fun _ _ _ _ _ _ _ => none
  | n + 1 => fun pc l1 l2 l3 l4 I J => if pc = 0 then zb_X12_guard_0 N (zl_X12_guard N n) l1 l2 l3 l4 I J else (if pc = 25 then zb_X12_guard_25 N (zl_X12_guard N n) l1 l2 l3 l4 I J else none)
theorem ze_X12_guard_0 (N : Nat) (n : Nat) (l1 : Int32) (l2 : Int32) (l3 : Int32) (l4 : Int32) (I : Nat → Nat → Int32) (J : Nat → Nat → Int64) : zl_X12_guard N (n+1) 0 l1 l2 l3 l4 I J = zb_X12_guard_0 N (zl_X12_guard N n) l1 l2 l3 l4 I J := by
  show (if 0 = 0 then zb_X12_guard_0 N (zl_X12_guard N n) l1 l2 l3 l4 I J else (if 0 = 25 then zb_X12_guard_25 N (zl_X12_guard N n) l1 l2 l3 l4 I J else none)) = _
  rw [if_pos rfl]
theorem ze_X12_guard_25 (N : Nat) (n : Nat) (l1 : Int32) (l2 : Int32) (l3 : Int32) (l4 : Int32) (I : Nat → Nat → Int32) (J : Nat → Nat → Int64) : zl_X12_guard N (n+1) 25 l1 l2 l3 l4 I J = zb_X12_guard_25 N (zl_X12_guard N n) l1 l2 l3 l4 I J := by
  show (if 25 = 0 then zb_X12_guard_0 N (zl_X12_guard N n) l1 l2 l3 l4 I J else (if 25 = 25 then zb_X12_guard_25 N (zl_X12_guard N n) l1 l2 l3 l4 I J else none)) = _
  rw [if_neg (by decide), if_pos rfl]
def zf_X12_guard (N : Nat)  (I : Nat → Nat → Int32) (J : Nat → Nat → Int64) : Option (Int32 × (Nat → Nat → Int32) × (Nat → Nat → Int64)) := zl_X12_guard N N 0 0 0 0 0 I J
theorem zq_X12_guard (F : zz_F) (d N : Nat) : ∀ n : Nat, (∀ (l1 : Int32) (l2 : Int32) (l3 : Int32) (l4 : Int32) (I : Nat → Nat → Int32) (J : Nat → Nat → Int64) (r : Int32 × (Nat → Nat → Int32) × (Nat → Nat → Int64)), zl_X12_guard N n 0 l1 l2 l3 l4 I J = some r → zz_run (d+2) 284 0 [some (.ref 52), none, none, none, none] [] (zz_S F I J) (some (.int r.1)) (zz_S F (r.2.1) (r.2.2))) ∧ (∀ (l1 : Int32) (l2 : Int32) (l3 : Int32) (l4 : Int32) (I : Nat → Nat → Int32) (J : Nat → Nat → Int64) (r : Int32 × (Nat → Nat → Int32) × (Nat → Nat → Int64)), zl_X12_guard N n 25 l1 l2 l3 l4 I J = some r → zz_run (d+2) 284 25 [some (.ref 52), some (.int l1), some (.int l2), some (.int l3), some (.int l4)] [] (zz_S F I J) (some (.int r.1)) (zz_S F (r.2.1) (r.2.2))) := by
  intro n
  induction n with
  | zero => exact ⟨fun _ _ _ _ _ _ _ h => zz_no h, fun _ _ _ _ _ _ _ h => zz_no h⟩
  | succ n ih =>
    obtain ⟨ih0, ih25⟩ := ih
    refine ⟨?_, ?_⟩
    · intro l1 l2 l3 l4 I J r hr
      rw [ze_X12_guard_0] at hr
      unfold zb_X12_guard_0 at hr
      refine zs_284_0 ?_
      refine And.intro (rfl) (And.intro (rfl) (And.intro (And.intro rfl rfl) (And.intro (rfl) (And.intro (Nat.le_of_ble_eq_true rfl) (And.intro (Nat.le_of_ble_eq_true rfl) ?_)))))
      refine And.intro (Nat.le_of_ble_eq_true rfl) ?_
      obtain ⟨r1, cr1, hr⟩ := Option.bind_eq_some_iff.mp hr
      refine Exists.intro _ (Exists.intro _ (And.intro (zr_X12_whereBits F (zz_u I 52 7 0) J (d+1) N 0 r1 cr1) ?_))
      refine And.intro (rfl) (And.intro (Nat.le_of_ble_eq_true rfl) (And.intro (Nat.le_of_ble_eq_true rfl) (And.intro (Nat.le_of_ble_eq_true rfl) ?_)))
      obtain ⟨r2, cr2, hr⟩ := Option.bind_eq_some_iff.mp hr
      refine Exists.intro _ (Exists.intro _ (And.intro (zr_X12_withPerson F (zz_u I 52 7 0) J d N r1.1 63 r2 cr2) ?_))
      exact zz_wk [true, true, true, true, true] rfl (ih25 _ _ _ _ _ _ _ hr)
    · intro l1 l2 l3 l4 I J r hr
      rw [ze_X12_guard_25] at hr
      unfold zb_X12_guard_25 at hr
      refine zs_284_25 ?_
      refine And.intro (fun (h1 : 64 ≤ l4) => ?_) (fun (h1 : ¬ (64 ≤ l4)) => ?_)
      · rw [if_pos h1] at hr
        show zz_run _ 284 64 [some (.ref 52), some (.int l1), some (.int l2), some (.int l3), some (.int l4)] [] (zz_S F I J) _ _
        refine zs_284_64 ?_
        refine And.intro (rfl) (And.intro (rfl) (And.intro (And.intro rfl rfl) (And.intro (rfl) (And.intro (Nat.le_of_ble_eq_true rfl) (And.intro (Nat.le_of_ble_eq_true rfl) ?_)))))
        refine And.intro (Nat.le_of_ble_eq_true rfl) ?_
        have g3 : ¬ (((zz_u I 52 6 0) 52 6) < 0 ∨ 20 ≤ ((zz_u I 52 6 0) 52 6).toNatClampNeg) := zz_g hr
        replace hr := zz_gt hr
        refine Exists.intro _ (Exists.intro _ (And.intro (zr_X12_tell F (zz_u I 52 6 0) J (d+1) l3.toInt64 g3) ?_))
        refine And.intro (Nat.le_of_ble_eq_true rfl) (And.intro (Nat.le_of_ble_eq_true rfl) (And.intro (Nat.le_of_ble_eq_true rfl) ?_))
        refine Exists.intro _ (Exists.intro _ (And.intro (zr_J6_bitCount F (zw_X12_tell (zz_u I 52 6 0) J l3.toInt64) (zx_X12_tell (zz_u I 52 6 0) J l3.toInt64) (d+1) l3) ?_))
        replace hr := Option.some.inj hr
        subst hr
        exact And.intro rfl (And.intro rfl rfl)
      · rw [if_neg h1] at hr
        refine And.intro (Nat.le_of_ble_eq_true rfl) (And.intro (Nat.le_of_ble_eq_true rfl) (And.intro (Nat.le_of_ble_eq_true rfl) ?_))
        refine Exists.intro _ (Exists.intro _ (And.intro (zr_J6_bitCount F I J (d+1) l4) ?_))
        refine And.intro (Nat.le_of_ble_eq_true rfl) (And.intro (Nat.le_of_ble_eq_true rfl) (And.intro (Nat.le_of_ble_eq_true rfl) ?_))
        refine Exists.intro _ (Exists.intro _ (And.intro (zr_J6_bitCount F I J (d+1) l3) ?_))
        refine And.intro (fun (h2 : (zv_J6_bitCount l3) ≤ (zv_J6_bitCount l4)) => ?_) (fun (h2 : ¬ ((zv_J6_bitCount l3) ≤ (zv_J6_bitCount l4))) => ?_)
        · rw [if_pos h2] at hr
          show zz_run _ 284 58 [some (.ref 52), some (.int l1), some (.int l2), some (.int l3), some (.int l4)] [] (zz_S F I J) _ _
          refine zs_284_58 ?_
          exact zz_wk [true, true, true, true, true] rfl (ih25 _ _ _ _ _ _ _ hr)
        · rw [if_neg h2] at hr
          refine And.intro (rfl) (And.intro (Nat.le_of_ble_eq_true rfl) (And.intro (Nat.le_of_ble_eq_true rfl) (And.intro (Nat.le_of_ble_eq_true rfl) ?_)))
          obtain ⟨r4, cr4, hr⟩ := Option.bind_eq_some_iff.mp hr
          refine Exists.intro _ (Exists.intro _ (And.intro (zr_X12_withPerson F I J d N l1 l4 r4 cr4) ?_))
          refine And.intro (fun (h3 : ¬ r4.1 = l2) => ?_) (fun (h3 : ¬ (¬ r4.1 = l2)) => ?_)
          · rw [if_pos h3] at hr
            show zz_run _ 284 58 [some (.ref 52), some (.int l1), some (.int l2), some (.int l3), some (.int l4)] [] (zz_S F I J) _ _
            refine zs_284_58 ?_
            exact zz_wk [true, true, true, true, true] rfl (ih25 _ _ _ _ _ _ _ hr)
          · rw [if_neg h3] at hr
            show zz_run _ 284 58 [some (.ref 52), some (.int l1), some (.int l2), some (.int l4), some (.int l4)] [] (zz_S F I J) _ _
            refine zs_284_58 ?_
            exact zz_wk [true, true, true, true, true] rfl (ih25 _ _ _ _ _ _ _ hr)
theorem zr_X12_guard (F : zz_F) (I : Nat → Nat → Int32) (J : Nat → Nat → Int64) (d N : Nat)  (r : Int32 × (Nat → Nat → Int32) × (Nat → Nat → Int64)) (h : zf_X12_guard N  I J = some r) : zz_run (d+2) 284 0 [some (.ref 52), none, none, none, none] [] (zz_S F I J) (some (.int r.1)) (zz_S F (r.2.1) (r.2.2)) := (zq_X12_guard F d N N).1 0 0 0 0 I J r h
