/-! printed by wip/whole/loop2.py -/
def zb_X11_rule_0 (N : Nat) (rec : Nat → (Nat → Nat → Int32) → (Nat → Nat → Int64) → Option (Int32 × (Nat → Nat → Int32) × (Nat → Nat → Int64)))  (I : Nat → Nat → Int32) (J : Nat → Nat → Int64) : Option (Int32 × (Nat → Nat → Int32) × (Nat → Nat → Int64)) := if ¬ (zv_X11_takeText I) = 0 then ((zf_X7_faultIn_X8__3 N (zv_X11_takeText I) 40 (zw_X11_takeText I) J).bind fun r1 => if r1.1 = ((-1)) then ((zf_X1_takeFrom__37 N  r1.2.1 J).bind fun r2 => some (0, r2.2.1, J)) else (some (((-1)) - r1.1, r1.2.1, J))) else ((zf_X1_takePlain N  (zw_X11_takeText I) J).bind fun r3 => some (0, r3.2.1, J))
def zl_X11_rule (N : Nat) : Nat → Nat → (Nat → Nat → Int32) → (Nat → Nat → Int64) → Option (Int32 × (Nat → Nat → Int32) × (Nat → Nat → Int64))
  | 0 => fun _ _ _ => none
  | n + 1 => fun pc  I J => if pc = 0 then zb_X11_rule_0 N (zl_X11_rule N n)  I J else none
theorem ze_X11_rule_0 (N : Nat) (n : Nat)  (I : Nat → Nat → Int32) (J : Nat → Nat → Int64) : zl_X11_rule N (n+1) 0  I J = zb_X11_rule_0 N (zl_X11_rule N n)  I J := by
  show (if 0 = 0 then zb_X11_rule_0 N (zl_X11_rule N n)  I J else none) = _
  rw [if_pos rfl]
def zf_X11_rule (N : Nat)  (I : Nat → Nat → Int32) (J : Nat → Nat → Int64) : Option (Int32 × (Nat → Nat → Int32) × (Nat → Nat → Int64)) := zl_X11_rule N N 0  I J
theorem zq_X11_rule (F : zz_F) (d N : Nat) : ∀ n : Nat, (∀  (I : Nat → Nat → Int32) (J : Nat → Nat → Int64) (r : Int32 × (Nat → Nat → Int32) × (Nat → Nat → Int64)), zl_X11_rule N n 0  I J = some r → zz_run (d+6) 137 0 [some (.ref 2), none, none] [] (zz_S F I J) (some (.int r.1)) (zz_S F (r.2.1) J)) := by
  intro n
  induction n with
  | zero => exact fun _ _ _ h => zz_no h
  | succ n ih =>
    have ih0 := ih
    skip
    · intro  I J r hr
      rw [ze_X11_rule_0] at hr
      unfold zb_X11_rule_0 at hr
      refine zs_137_0 ?_
      refine And.intro (rfl) (And.intro (Nat.le_of_ble_eq_true rfl) (And.intro (Nat.le_of_ble_eq_true rfl) (And.intro (Nat.le_of_ble_eq_true rfl) ?_)))
      refine Exists.intro _ (Exists.intro _ (And.intro (zr_X11_takeText F I J (d+5) ) ?_))
      refine And.intro (fun (h1 : ¬ (zv_X11_takeText I) = 0) => ?_) (fun (h1 : ¬ (¬ (zv_X11_takeText I) = 0)) => ?_)
      · rw [if_pos h1] at hr
        show zz_run _ 137 18 [some (.ref 2), some (.int (zv_X11_takeText I)), none] [] (zz_S F (zw_X11_takeText I) J) _ _
        refine zs_137_18 ?_
        refine And.intro (rfl) (And.intro (rfl) (And.intro (rfl) (And.intro (Nat.le_of_ble_eq_true rfl) (And.intro (Nat.le_of_ble_eq_true rfl) (And.intro (Nat.le_of_ble_eq_true rfl) ?_)))))
        obtain ⟨r1, cr1, hr⟩ := Option.bind_eq_some_iff.mp hr
        refine Exists.intro _ (Exists.intro _ (And.intro (zr_X7_faultIn_X8__3 F (zw_X11_takeText I) J d N (zv_X11_takeText I) 40 r1 cr1) ?_))
        refine And.intro (fun (h2 : r1.1 = ((-1))) => ?_) (fun (h2 : ¬ (r1.1 = ((-1)))) => ?_)
        · rw [if_pos h2] at hr
          show zz_run _ 137 42 [some (.ref 2), some (.int (zv_X11_takeText I)), some (.int r1.1)] [] (zz_S F r1.2.1 J) _ _
          refine zs_137_42 ?_
          refine And.intro (rfl) (And.intro (rfl) (And.intro (rfl) (And.intro (Nat.le_of_ble_eq_true rfl) (And.intro (Nat.le_of_ble_eq_true rfl) (And.intro (Nat.le_of_ble_eq_true rfl) ?_)))))
          obtain ⟨r2, cr2, hr⟩ := Option.bind_eq_some_iff.mp hr
          refine Exists.intro _ (Exists.intro _ (And.intro (zr_X1_takeFrom__37 F r1.2.1 J (d+3) N  r2 cr2) ?_))
          replace hr := Option.some.inj hr
          subst hr
          exact And.intro rfl (And.intro rfl rfl)
        · rw [if_neg h2] at hr
          replace hr := Option.some.inj hr
          subst hr
          exact And.intro rfl (And.intro rfl rfl)
      · rw [if_neg h1] at hr
        refine And.intro (rfl) (And.intro (rfl) (And.intro (Nat.le_of_ble_eq_true rfl) (And.intro (Nat.le_of_ble_eq_true rfl) (And.intro (Nat.le_of_ble_eq_true rfl) ?_))))
        obtain ⟨r3, cr3, hr⟩ := Option.bind_eq_some_iff.mp hr
        refine Exists.intro _ (Exists.intro _ (And.intro (zr_X1_takePlain F (zw_X11_takeText I) J (d+3) N  r3 cr3) ?_))
        replace hr := Option.some.inj hr
        subst hr
        exact And.intro rfl (And.intro rfl rfl)
theorem zr_X11_rule (F : zz_F) (I : Nat → Nat → Int32) (J : Nat → Nat → Int64) (d N : Nat)  (r : Int32 × (Nat → Nat → Int32) × (Nat → Nat → Int64)) (h : zf_X11_rule N  I J = some r) : zz_run (d+6) 137 0 [some (.ref 2), none, none] [] (zz_S F I J) (some (.int r.1)) (zz_S F (r.2.1) J) := (zq_X11_rule F d N N)  I J r h
def zb_X11_cut_0 (N : Nat) (rec : Nat → Int32 → (Nat → Nat → Int32) → (Nat → Nat → Int64) → Option (Int32 × (Nat → Nat → Int32) × (Nat → Nat → Int64))) (l1 : Int32) (I : Nat → Nat → Int32) (J : Nat → Nat → Int64) : Option (Int32 × (Nat → Nat → Int32) × (Nat → Nat → Int64)) := if (zv_X11_refusalToDrop I l1) = 0 then ((zf_X6_push__8 N  I J).bind fun r1 => some (zv_X11_comingBeside (zz_dropm r1.2.1 l1) l1, zz_dropm r1.2.1 l1, J)) else (some (zv_X11_refusalToDrop I l1, I, J))
def zl_X11_cut (N : Nat) : Nat → Nat → Int32 → (Nat → Nat → Int32) → (Nat → Nat → Int64) → Option (Int32 × (Nat → Nat → Int32) × (Nat → Nat → Int64))
  | 0 => fun _ _ _ _ => none
  | n + 1 => fun pc l1 I J => if pc = 0 then zb_X11_cut_0 N (zl_X11_cut N n) l1 I J else none
theorem ze_X11_cut_0 (N : Nat) (n : Nat) (l1 : Int32) (I : Nat → Nat → Int32) (J : Nat → Nat → Int64) : zl_X11_cut N (n+1) 0 l1 I J = zb_X11_cut_0 N (zl_X11_cut N n) l1 I J := by
  show (if 0 = 0 then zb_X11_cut_0 N (zl_X11_cut N n) l1 I J else none) = _
  rw [if_pos rfl]
def zf_X11_cut (N : Nat) (l1 : Int32) (I : Nat → Nat → Int32) (J : Nat → Nat → Int64) : Option (Int32 × (Nat → Nat → Int32) × (Nat → Nat → Int64)) := zl_X11_cut N N 0 l1 I J
theorem zq_X11_cut (F : zz_F) (d N : Nat) : ∀ n : Nat, (∀ (l1 : Int32) (I : Nat → Nat → Int32) (J : Nat → Nat → Int64) (r : Int32 × (Nat → Nat → Int32) × (Nat → Nat → Int64)), zl_X11_cut N n 0 l1 I J = some r → zz_run (d+2) 142 0 [some (.ref 2), some (.int l1), none] [] (zz_S F I J) (some (.int r.1)) (zz_S F (r.2.1) J)) := by
  intro n
  induction n with
  | zero => exact fun _ _ _ _ h => zz_no h
  | succ n ih =>
    have ih0 := ih
    skip
    · intro l1 I J r hr
      rw [ze_X11_cut_0] at hr
      unfold zb_X11_cut_0 at hr
      refine zs_142_0 ?_
      refine And.intro (rfl) (And.intro (Nat.le_of_ble_eq_true rfl) (And.intro (Nat.le_of_ble_eq_true rfl) (And.intro (Nat.le_of_ble_eq_true rfl) ?_)))
      refine Exists.intro _ (Exists.intro _ (And.intro (zr_X11_refusalToDrop F I J d l1) ?_))
      refine And.intro (fun (h1 : (zv_X11_refusalToDrop I l1) = 0) => ?_) (fun (h1 : ¬ ((zv_X11_refusalToDrop I l1) = 0)) => ?_)
      · rw [if_pos h1] at hr
        show zz_run _ 142 12 [some (.ref 2), some (.int l1), some (.int (zv_X11_refusalToDrop I l1))] [] (zz_S F I J) _ _
        refine zs_142_12 ?_
        refine And.intro (rfl) (And.intro (rfl) (And.intro (rfl) (And.intro (Nat.le_of_ble_eq_true rfl) (And.intro (Nat.le_of_ble_eq_true rfl) (And.intro (Nat.le_of_ble_eq_true rfl) ?_)))))
        obtain ⟨r1, cr1, hr⟩ := Option.bind_eq_some_iff.mp hr
        refine Exists.intro _ (Exists.intro _ (And.intro (zr_X6_push__8 F I J d N  r1 cr1) ?_))
        refine And.intro (rfl) (And.intro (rfl) (And.intro (Nat.le_of_ble_eq_true rfl) (And.intro (Nat.le_of_ble_eq_true rfl) (And.intro (Nat.le_of_ble_eq_true rfl) ?_))))
        refine Exists.intro _ (Exists.intro _ (And.intro (zr_drop F r1.2.1 J (d+1) l1) ?_))
        refine And.intro (rfl) (And.intro (Nat.le_of_ble_eq_true rfl) (And.intro (Nat.le_of_ble_eq_true rfl) (And.intro (Nat.le_of_ble_eq_true rfl) ?_)))
        refine Exists.intro _ (Exists.intro _ (And.intro (zr_X11_comingBeside F (zz_dropm r1.2.1 l1) J d l1) ?_))
        replace hr := Option.some.inj hr
        subst hr
        exact And.intro rfl (And.intro rfl rfl)
      · rw [if_neg h1] at hr
        replace hr := Option.some.inj hr
        subst hr
        exact And.intro rfl (And.intro rfl rfl)
theorem zr_X11_cut (F : zz_F) (I : Nat → Nat → Int32) (J : Nat → Nat → Int64) (d N : Nat) (l1 : Int32) (r : Int32 × (Nat → Nat → Int32) × (Nat → Nat → Int64)) (h : zf_X11_cut N l1 I J = some r) : zz_run (d+2) 142 0 [some (.ref 2), some (.int l1), none] [] (zz_S F I J) (some (.int r.1)) (zz_S F (r.2.1) J) := (zq_X11_cut F d N N) l1 I J r h
def zb_X11_puts_0 (N : Nat) (rec : Nat → Int32 → (Nat → Nat → Int32) → (Nat → Nat → Int64) → Option (Int32 × (Nat → Nat → Int32) × (Nat → Nat → Int64))) (l1 : Int32) (I : Nat → Nat → Int32) (J : Nat → Nat → Int64) : Option (Int32 × (Nat → Nat → Int32) × (Nat → Nat → Int64)) := if ¬ (zv_X9_has I l1) = 0 then (if ¬ ((I 8 4) &&& ((1 : Int32) <<< (l1 &&& 31))) = 0 then (if (((I 8 3) &&& (zv_X9_scenesOf I (zz_f I l1 0))) &&& (-((1 : Int32) <<< (l1 &&& 31)))) = 0 then ((zf_X6_push__8 N  I J).bind fun r1 => some (zv_X11_comingBeside (zz_backm r1.2.1 l1) l1, zz_backm r1.2.1 l1, J)) else (some ((-3), I, J))) else (some ((-2), I, J))) else (some ((-1), I, J))
def zl_X11_puts (N : Nat) : Nat → Nat → Int32 → (Nat → Nat → Int32) → (Nat → Nat → Int64) → Option (Int32 × (Nat → Nat → Int32) × (Nat → Nat → Int64))
  | 0 => fun _ _ _ _ => none
  | n + 1 => fun pc l1 I J => if pc = 0 then zb_X11_puts_0 N (zl_X11_puts N n) l1 I J else none
theorem ze_X11_puts_0 (N : Nat) (n : Nat) (l1 : Int32) (I : Nat → Nat → Int32) (J : Nat → Nat → Int64) : zl_X11_puts N (n+1) 0 l1 I J = zb_X11_puts_0 N (zl_X11_puts N n) l1 I J := by
  show (if 0 = 0 then zb_X11_puts_0 N (zl_X11_puts N n) l1 I J else none) = _
  rw [if_pos rfl]
def zf_X11_puts (N : Nat) (l1 : Int32) (I : Nat → Nat → Int32) (J : Nat → Nat → Int64) : Option (Int32 × (Nat → Nat → Int32) × (Nat → Nat → Int64)) := zl_X11_puts N N 0 l1 I J
theorem zq_X11_puts (F : zz_F) (d N : Nat) : ∀ n : Nat, (∀ (l1 : Int32) (I : Nat → Nat → Int32) (J : Nat → Nat → Int64) (r : Int32 × (Nat → Nat → Int32) × (Nat → Nat → Int64)), zl_X11_puts N n 0 l1 I J = some r → zz_run (d+2) 143 0 [some (.ref 2), some (.int l1), none, none] [] (zz_S F I J) (some (.int r.1)) (zz_S F (r.2.1) J)) := by
  intro n
  induction n with
  | zero => exact fun _ _ _ _ h => zz_no h
  | succ n ih =>
    have ih0 := ih
    skip
    · intro l1 I J r hr
      rw [ze_X11_puts_0] at hr
      unfold zb_X11_puts_0 at hr
      refine zs_143_0 ?_
      refine And.intro (rfl) (And.intro (rfl) (And.intro (Nat.le_of_ble_eq_true rfl) (And.intro (Nat.le_of_ble_eq_true rfl) (And.intro (Nat.le_of_ble_eq_true rfl) ?_))))
      refine Exists.intro _ (Exists.intro _ (And.intro (zr_X9_has F I J (d+1) l1) ?_))
      refine And.intro (fun (h1 : ¬ (zv_X9_has I l1) = 0) => ?_) (fun (h1 : ¬ (¬ (zv_X9_has I l1) = 0)) => ?_)
      · rw [if_pos h1] at hr
        show zz_run _ 143 13 [some (.ref 2), some (.int l1), none, none] [] (zz_S F I J) _ _
        refine zs_143_13 ?_
        refine And.intro (rfl) (And.intro (rfl) (And.intro (fun (h2 : ¬ ((I 8 4) &&& ((1 : Int32) <<< (l1 &&& 31))) = 0) => ?_) (fun (h2 : ¬ (¬ ((I 8 4) &&& ((1 : Int32) <<< (l1 &&& 31))) = 0)) => ?_)))
        · rw [if_pos h2] at hr
          show zz_run _ 143 32 [some (.ref 2), some (.int l1), some (.int ((1 : Int32) <<< (l1 &&& 31))), none] [] (zz_S F I J) _ _
          refine zs_143_32 ?_
          refine And.intro (rfl) (And.intro (rfl) (And.intro (rfl) (And.intro (Nat.le_of_ble_eq_true rfl) (And.intro (Nat.le_of_ble_eq_true rfl) (And.intro (Nat.le_of_ble_eq_true rfl) ?_)))))
          refine Exists.intro _ (Exists.intro _ (And.intro (zr_of F I J (d+1) l1 0) ?_))
          refine And.intro (rfl) (And.intro (Nat.le_of_ble_eq_true rfl) (And.intro (Nat.le_of_ble_eq_true rfl) (And.intro (Nat.le_of_ble_eq_true rfl) ?_)))
          refine Exists.intro _ (Exists.intro _ (And.intro (zr_X9_scenesOf F I J (d+1) (zz_f I l1 0)) ?_))
          refine And.intro (rfl) (And.intro (rfl) (And.intro (fun (h3 : (((I 8 3) &&& (zv_X9_scenesOf I (zz_f I l1 0))) &&& (-((1 : Int32) <<< (l1 &&& 31)))) = 0) => ?_) (fun (h3 : ¬ ((((I 8 3) &&& (zv_X9_scenesOf I (zz_f I l1 0))) &&& (-((1 : Int32) <<< (l1 &&& 31)))) = 0)) => ?_)))
          · rw [if_pos h3] at hr
            show zz_run _ 143 67 [some (.ref 2), some (.int l1), some (.int ((1 : Int32) <<< (l1 &&& 31))), some (.int (zv_X9_scenesOf I (zz_f I l1 0)))] [] (zz_S F I J) _ _
            refine zs_143_67 ?_
            refine And.intro (rfl) (And.intro (rfl) (And.intro (rfl) (And.intro (Nat.le_of_ble_eq_true rfl) (And.intro (Nat.le_of_ble_eq_true rfl) (And.intro (Nat.le_of_ble_eq_true rfl) ?_)))))
            obtain ⟨r1, cr1, hr⟩ := Option.bind_eq_some_iff.mp hr
            refine Exists.intro _ (Exists.intro _ (And.intro (zr_X6_push__8 F I J d N  r1 cr1) ?_))
            refine And.intro (rfl) (And.intro (rfl) (And.intro (Nat.le_of_ble_eq_true rfl) (And.intro (Nat.le_of_ble_eq_true rfl) (And.intro (Nat.le_of_ble_eq_true rfl) ?_))))
            refine Exists.intro _ (Exists.intro _ (And.intro (zr_takeBack F r1.2.1 J (d+1) l1) ?_))
            refine And.intro (rfl) (And.intro (Nat.le_of_ble_eq_true rfl) (And.intro (Nat.le_of_ble_eq_true rfl) (And.intro (Nat.le_of_ble_eq_true rfl) ?_)))
            refine Exists.intro _ (Exists.intro _ (And.intro (zr_X11_comingBeside F (zz_backm r1.2.1 l1) J d l1) ?_))
            replace hr := Option.some.inj hr
            subst hr
            exact And.intro rfl (And.intro rfl rfl)
          · rw [if_neg h3] at hr
            replace hr := Option.some.inj hr
            subst hr
            exact And.intro rfl (And.intro rfl rfl)
        · rw [if_neg h2] at hr
          replace hr := Option.some.inj hr
          subst hr
          exact And.intro rfl (And.intro rfl rfl)
      · rw [if_neg h1] at hr
        replace hr := Option.some.inj hr
        subst hr
        exact And.intro rfl (And.intro rfl rfl)
theorem zr_X11_puts (F : zz_F) (I : Nat → Nat → Int32) (J : Nat → Nat → Int64) (d N : Nat) (l1 : Int32) (r : Int32 × (Nat → Nat → Int32) × (Nat → Nat → Int64)) (h : zf_X11_puts N l1 I J = some r) : zz_run (d+2) 143 0 [some (.ref 2), some (.int l1), none, none] [] (zz_S F I J) (some (.int r.1)) (zz_S F (r.2.1) J) := (zq_X11_puts F d N N) l1 I J r h
def zb_X11_pause_0 (N : Nat) (rec : Nat → Int32 → (Nat → Nat → Int32) → (Nat → Nat → Int64) → Option (Int32 × (Nat → Nat → Int32) × (Nat → Nat → Int64))) (l1 : Int32) (I : Nat → Nat → Int32) (J : Nat → Nat → Int64) : Option (Int32 × (Nat → Nat → Int32) × (Nat → Nat → Int64)) := if l1 < 0 then (some ((-1), I, J)) else (if l1 ≤ 99 then (if l1 ≤ 0 then (some (I 8 0, I, J)) else ((zf_X6_push__8 N  I J).bind fun r1 => some ((r1.2.1 8 0) + l1, zz_u r1.2.1 8 0 ((r1.2.1 8 0) + l1), J))) else (some ((-1), I, J)))
def zl_X11_pause (N : Nat) : Nat → Nat → Int32 → (Nat → Nat → Int32) → (Nat → Nat → Int64) → Option (Int32 × (Nat → Nat → Int32) × (Nat → Nat → Int64))
  | 0 => fun _ _ _ _ => none
  | n + 1 => fun pc l1 I J => if pc = 0 then zb_X11_pause_0 N (zl_X11_pause N n) l1 I J else none
theorem ze_X11_pause_0 (N : Nat) (n : Nat) (l1 : Int32) (I : Nat → Nat → Int32) (J : Nat → Nat → Int64) : zl_X11_pause N (n+1) 0 l1 I J = zb_X11_pause_0 N (zl_X11_pause N n) l1 I J := by
  show (if 0 = 0 then zb_X11_pause_0 N (zl_X11_pause N n) l1 I J else none) = _
  rw [if_pos rfl]
def zf_X11_pause (N : Nat) (l1 : Int32) (I : Nat → Nat → Int32) (J : Nat → Nat → Int64) : Option (Int32 × (Nat → Nat → Int32) × (Nat → Nat → Int64)) := zl_X11_pause N N 0 l1 I J
theorem zq_X11_pause (F : zz_F) (d N : Nat) : ∀ n : Nat, (∀ (l1 : Int32) (I : Nat → Nat → Int32) (J : Nat → Nat → Int64) (r : Int32 × (Nat → Nat → Int32) × (Nat → Nat → Int64)), zl_X11_pause N n 0 l1 I J = some r → zz_run (d+2) 144 0 [some (.ref 2), some (.int l1)] [] (zz_S F I J) (some (.int r.1)) (zz_S F (r.2.1) J)) := by
  intro n
  induction n with
  | zero => exact fun _ _ _ _ h => zz_no h
  | succ n ih =>
    have ih0 := ih
    skip
    · intro l1 I J r hr
      rw [ze_X11_pause_0] at hr
      unfold zb_X11_pause_0 at hr
      refine zs_144_0 ?_
      refine And.intro (fun (h1 : l1 < 0) => ?_) (fun (h1 : ¬ (l1 < 0)) => ?_)
      · rw [if_pos h1] at hr
        show zz_run _ 144 10 [some (.ref 2), some (.int l1)] [] (zz_S F I J) _ _
        refine zs_144_10 ?_
        replace hr := Option.some.inj hr
        subst hr
        exact And.intro rfl (And.intro rfl rfl)
      · rw [if_neg h1] at hr
        refine And.intro (fun (h2 : l1 ≤ 99) => ?_) (fun (h2 : ¬ (l1 ≤ 99)) => ?_)
        · rw [if_pos h2] at hr
          show zz_run _ 144 12 [some (.ref 2), some (.int l1)] [] (zz_S F I J) _ _
          refine zs_144_12 ?_
          refine And.intro (fun (h3 : l1 ≤ 0) => ?_) (fun (h3 : ¬ (l1 ≤ 0)) => ?_)
          · rw [if_pos h3] at hr
            show zz_run _ 144 40 [some (.ref 2), some (.int l1)] [] (zz_S F I J) _ _
            refine zs_144_40 ?_
            refine And.intro (rfl) (And.intro (rfl) ?_)
            replace hr := Option.some.inj hr
            subst hr
            exact And.intro rfl (And.intro rfl rfl)
          · rw [if_neg h3] at hr
            refine And.intro (rfl) (And.intro (rfl) (And.intro (rfl) (And.intro (Nat.le_of_ble_eq_true rfl) (And.intro (Nat.le_of_ble_eq_true rfl) (And.intro (Nat.le_of_ble_eq_true rfl) ?_)))))
            obtain ⟨r1, cr1, hr⟩ := Option.bind_eq_some_iff.mp hr
            refine Exists.intro _ (Exists.intro _ (And.intro (zr_X6_push__8 F I J d N  r1 cr1) ?_))
            refine And.intro (rfl) (And.intro (rfl) (And.intro (rfl) (And.intro (rfl) (And.intro (rfl) (And.intro (And.intro rfl rfl) ?_)))))
            show zz_run _ 144 40 [some (.ref 2), some (.int l1)] [] (zz_S F (zz_u r1.2.1 8 0 ((r1.2.1 8 0) + l1)) J) _ _
            refine zs_144_40 ?_
            refine And.intro (rfl) (And.intro (rfl) ?_)
            replace hr := Option.some.inj hr
            subst hr
            exact And.intro rfl (And.intro rfl rfl)
        · rw [if_neg h2] at hr
          show zz_run _ 144 10 [some (.ref 2), some (.int l1)] [] (zz_S F I J) _ _
          refine zs_144_10 ?_
          replace hr := Option.some.inj hr
          subst hr
          exact And.intro rfl (And.intro rfl rfl)
theorem zr_X11_pause (F : zz_F) (I : Nat → Nat → Int32) (J : Nat → Nat → Int64) (d N : Nat) (l1 : Int32) (r : Int32 × (Nat → Nat → Int32) × (Nat → Nat → Int64)) (h : zf_X11_pause N l1 I J = some r) : zz_run (d+2) 144 0 [some (.ref 2), some (.int l1)] [] (zz_S F I J) (some (.int r.1)) (zz_S F (r.2.1) J) := (zq_X11_pause F d N N) l1 I J r h
def zb_X11_undo_0 (N : Nat) (rec : Nat → (Nat → Nat → Int32) → (Nat → Nat → Int64) → Option (Int32 × (Nat → Nat → Int32) × (Nat → Nat → Int64)))  (I : Nat → Nat → Int32) (J : Nat → Nat → Int64) : Option (Int32 × (Nat → Nat → Int32) × (Nat → Nat → Int64)) := (zf_X6_popInto__8 N  I J).bind fun r1 => some (r1.1, r1.2.1, J)
def zl_X11_undo (N : Nat) : Nat → Nat → (Nat → Nat → Int32) → (Nat → Nat → Int64) → Option (Int32 × (Nat → Nat → Int32) × (Nat → Nat → Int64))
  | 0 => fun _ _ _ => none
  | n + 1 => fun pc  I J => if pc = 0 then zb_X11_undo_0 N (zl_X11_undo N n)  I J else none
theorem ze_X11_undo_0 (N : Nat) (n : Nat)  (I : Nat → Nat → Int32) (J : Nat → Nat → Int64) : zl_X11_undo N (n+1) 0  I J = zb_X11_undo_0 N (zl_X11_undo N n)  I J := by
  show (if 0 = 0 then zb_X11_undo_0 N (zl_X11_undo N n)  I J else none) = _
  rw [if_pos rfl]
def zf_X11_undo (N : Nat)  (I : Nat → Nat → Int32) (J : Nat → Nat → Int64) : Option (Int32 × (Nat → Nat → Int32) × (Nat → Nat → Int64)) := zl_X11_undo N N 0  I J
theorem zq_X11_undo (F : zz_F) (d N : Nat) : ∀ n : Nat, (∀  (I : Nat → Nat → Int32) (J : Nat → Nat → Int64) (r : Int32 × (Nat → Nat → Int32) × (Nat → Nat → Int64)), zl_X11_undo N n 0  I J = some r → zz_run (d+2) 146 0 [some (.ref 2)] [] (zz_S F I J) (some (.int r.1)) (zz_S F (r.2.1) J)) := by
  intro n
  induction n with
  | zero => exact fun _ _ _ h => zz_no h
  | succ n ih =>
    have ih0 := ih
    skip
    · intro  I J r hr
      rw [ze_X11_undo_0] at hr
      unfold zb_X11_undo_0 at hr
      refine zs_146_0 ?_
      refine And.intro (rfl) (And.intro (rfl) (And.intro (rfl) (And.intro (Nat.le_of_ble_eq_true rfl) (And.intro (Nat.le_of_ble_eq_true rfl) (And.intro (Nat.le_of_ble_eq_true rfl) ?_)))))
      obtain ⟨r1, cr1, hr⟩ := Option.bind_eq_some_iff.mp hr
      refine Exists.intro _ (Exists.intro _ (And.intro (zr_X6_popInto__8 F I J d N  r1 cr1) ?_))
      replace hr := Option.some.inj hr
      subst hr
      exact And.intro rfl (And.intro rfl rfl)
theorem zr_X11_undo (F : zz_F) (I : Nat → Nat → Int32) (J : Nat → Nat → Int64) (d N : Nat)  (r : Int32 × (Nat → Nat → Int32) × (Nat → Nat → Int64)) (h : zf_X11_undo N  I J = some r) : zz_run (d+2) 146 0 [some (.ref 2)] [] (zz_S F I J) (some (.int r.1)) (zz_S F (r.2.1) J) := (zq_X11_undo F d N N)  I J r h
def zb_X11_weave_0 (N : Nat) (rec : Nat → (Nat → Nat → Int32) → (Nat → Nat → Int64) → Option (Int32 × (Nat → Nat → Int32) × (Nat → Nat → Int64)))  (I : Nat → Nat → Int32) (J : Nat → Nat → Int64) : Option (Int32 × (Nat → Nat → Int32) × (Nat → Nat → Int64)) := (zf_X11_readyLoom__28 N  I J).bind fun r1 => (zf_X4_shortest N  r1.2.1 J).bind fun r2 => (zf_X4_findShortestTurns N  r2.2.1 J).bind fun r3 => (zf_X11_tellTurns N  r3.2.1 J).bind fun r4 => some (r2.1, r4.2.1, r4.2.2)
def zl_X11_weave (N : Nat) : Nat → Nat → (Nat → Nat → Int32) → (Nat → Nat → Int64) → Option (Int32 × (Nat → Nat → Int32) × (Nat → Nat → Int64))
  | 0 => fun _ _ _ => none
  | n + 1 => fun pc  I J => if pc = 0 then zb_X11_weave_0 N (zl_X11_weave N n)  I J else none
theorem ze_X11_weave_0 (N : Nat) (n : Nat)  (I : Nat → Nat → Int32) (J : Nat → Nat → Int64) : zl_X11_weave N (n+1) 0  I J = zb_X11_weave_0 N (zl_X11_weave N n)  I J := by
  show (if 0 = 0 then zb_X11_weave_0 N (zl_X11_weave N n)  I J else none) = _
  rw [if_pos rfl]
def zf_X11_weave (N : Nat)  (I : Nat → Nat → Int32) (J : Nat → Nat → Int64) : Option (Int32 × (Nat → Nat → Int32) × (Nat → Nat → Int64)) := zl_X11_weave N N 0  I J
theorem zq_X11_weave (F : zz_F) (d N : Nat) : ∀ n : Nat, (∀  (I : Nat → Nat → Int32) (J : Nat → Nat → Int64) (r : Int32 × (Nat → Nat → Int32) × (Nat → Nat → Int64)), zl_X11_weave N n 0  I J = some r → zz_run (d+5) 148 0 [some (.ref 2), none] [] (zz_S F I J) (some (.int r.1)) (zz_S F (r.2.1) (r.2.2))) := by
  intro n
  induction n with
  | zero => exact fun _ _ _ h => zz_no h
  | succ n ih =>
    have ih0 := ih
    skip
    · intro  I J r hr
      rw [ze_X11_weave_0] at hr
      unfold zb_X11_weave_0 at hr
      refine zs_148_0 ?_
      refine And.intro (rfl) (And.intro (rfl) (And.intro (Nat.le_of_ble_eq_true rfl) (And.intro (Nat.le_of_ble_eq_true rfl) (And.intro (Nat.le_of_ble_eq_true rfl) ?_))))
      obtain ⟨r1, cr1, hr⟩ := Option.bind_eq_some_iff.mp hr
      refine Exists.intro _ (Exists.intro _ (And.intro (zr_X11_readyLoom__28 F I J d N  r1 cr1) ?_))
      refine And.intro (rfl) (And.intro (rfl) (And.intro (Nat.le_of_ble_eq_true rfl) (And.intro (Nat.le_of_ble_eq_true rfl) (And.intro (Nat.le_of_ble_eq_true rfl) ?_))))
      obtain ⟨r2, cr2, hr⟩ := Option.bind_eq_some_iff.mp hr
      refine Exists.intro _ (Exists.intro _ (And.intro (zr_X4_shortest F r1.2.1 J d N  r2 cr2) ?_))
      refine And.intro (rfl) (And.intro (rfl) (And.intro (Nat.le_of_ble_eq_true rfl) (And.intro (Nat.le_of_ble_eq_true rfl) (And.intro (Nat.le_of_ble_eq_true rfl) ?_))))
      obtain ⟨r3, cr3, hr⟩ := Option.bind_eq_some_iff.mp hr
      refine Exists.intro _ (Exists.intro _ (And.intro (zr_X4_findShortestTurns F r2.2.1 J (d+2) N  r3 cr3) ?_))
      refine And.intro (rfl) (And.intro (Nat.le_of_ble_eq_true rfl) (And.intro (Nat.le_of_ble_eq_true rfl) (And.intro (Nat.le_of_ble_eq_true rfl) ?_)))
      obtain ⟨r4, cr4, hr⟩ := Option.bind_eq_some_iff.mp hr
      refine Exists.intro _ (Exists.intro _ (And.intro (zr_X11_tellTurns F r3.2.1 J (d+3) N  r4 cr4) ?_))
      replace hr := Option.some.inj hr
      subst hr
      exact And.intro rfl (And.intro rfl rfl)
theorem zr_X11_weave (F : zz_F) (I : Nat → Nat → Int32) (J : Nat → Nat → Int64) (d N : Nat)  (r : Int32 × (Nat → Nat → Int32) × (Nat → Nat → Int64)) (h : zf_X11_weave N  I J = some r) : zz_run (d+5) 148 0 [some (.ref 2), none] [] (zz_S F I J) (some (.int r.1)) (zz_S F (r.2.1) (r.2.2)) := (zq_X11_weave F d N N)  I J r h
def zb_X11_within_0 (N : Nat) (rec : Nat → Int32 → Int32 → Int32 → Int32 → (Nat → Nat → Int32) → (Nat → Nat → Int64) → Option (Int32 × (Nat → Nat → Int32) × (Nat → Nat → Int64))) (l1 : Int32) (l2 : Int32) (l3 : Int32) (l4 : Int32) (I : Nat → Nat → Int32) (J : Nat → Nat → Int64) : Option (Int32 × (Nat → Nat → Int32) × (Nat → Nat → Int64)) := if ¬ (zv_X11_isHour l1) = 0 then ((zf_X11_readyLoom__28 N  I J).bind fun r1 => (zf_X4_fillForth N  r1.2.1 J).bind fun r2 => rec 31 l1 0 0 1 r2.2.1 J) else (some ((-1), I, J))
def zb_X11_within_31 (N : Nat) (rec : Nat → Int32 → Int32 → Int32 → Int32 → (Nat → Nat → Int32) → (Nat → Nat → Int64) → Option (Int32 × (Nat → Nat → Int32) × (Nat → Nat → Int64))) (l1 : Int32) (l2 : Int32) (l3 : Int32) (l4 : Int32) (I : Nat → Nat → Int32) (J : Nat → Nat → Int64) : Option (Int32 × (Nat → Nat → Int32) × (Nat → Nat → Int64)) := if ((zv_X4_sizeOf I 0) + (zv_X4_sizeOf I 1)) < l4 then (some (l2, zw_X11_tell I J l3.toInt64, zx_X11_tell I J l3.toInt64)) else ((zf_X4_soonestOf N l4 I J).bind fun r3 => if l1 < r3.1 then (rec 31 l1 l2 l3 (l4 + 1) I J) else (rec 31 l1 l4 r3.1 (l4 + 1) I J))
def zl_X11_within (N : Nat) : Nat → Nat → Int32 → Int32 → Int32 → Int32 → (Nat → Nat → Int32) → (Nat → Nat → Int64) → Option (Int32 × (Nat → Nat → Int32) × (Nat → Nat → Int64))
  | 0 => fun _ _ _ _ _ _ _ => none
  | n + 1 => fun pc l1 l2 l3 l4 I J => if pc = 0 then zb_X11_within_0 N (zl_X11_within N n) l1 l2 l3 l4 I J else (if pc = 31 then zb_X11_within_31 N (zl_X11_within N n) l1 l2 l3 l4 I J else none)
theorem ze_X11_within_0 (N : Nat) (n : Nat) (l1 : Int32) (l2 : Int32) (l3 : Int32) (l4 : Int32) (I : Nat → Nat → Int32) (J : Nat → Nat → Int64) : zl_X11_within N (n+1) 0 l1 l2 l3 l4 I J = zb_X11_within_0 N (zl_X11_within N n) l1 l2 l3 l4 I J := by
  show (if 0 = 0 then zb_X11_within_0 N (zl_X11_within N n) l1 l2 l3 l4 I J else (if 0 = 31 then zb_X11_within_31 N (zl_X11_within N n) l1 l2 l3 l4 I J else none)) = _
  rw [if_pos rfl]
theorem ze_X11_within_31 (N : Nat) (n : Nat) (l1 : Int32) (l2 : Int32) (l3 : Int32) (l4 : Int32) (I : Nat → Nat → Int32) (J : Nat → Nat → Int64) : zl_X11_within N (n+1) 31 l1 l2 l3 l4 I J = zb_X11_within_31 N (zl_X11_within N n) l1 l2 l3 l4 I J := by
  show (if 31 = 0 then zb_X11_within_0 N (zl_X11_within N n) l1 l2 l3 l4 I J else (if 31 = 31 then zb_X11_within_31 N (zl_X11_within N n) l1 l2 l3 l4 I J else none)) = _
  rw [if_neg (by decide), if_pos rfl]
def zf_X11_within (N : Nat) (l1 : Int32) (I : Nat → Nat → Int32) (J : Nat → Nat → Int64) : Option (Int32 × (Nat → Nat → Int32) × (Nat → Nat → Int64)) := zl_X11_within N N 0 l1 0 0 0 I J
theorem zq_X11_within (F : zz_F) (d N : Nat) : ∀ n : Nat, (∀ (l1 : Int32) (l2 : Int32) (l3 : Int32) (l4 : Int32) (I : Nat → Nat → Int32) (J : Nat → Nat → Int64) (r : Int32 × (Nat → Nat → Int32) × (Nat → Nat → Int64)), zl_X11_within N n 0 l1 l2 l3 l4 I J = some r → zz_run (d+5) 151 0 [some (.ref 2), some (.int l1), none, none, none, none] [] (zz_S F I J) (some (.int r.1)) (zz_S F (r.2.1) (r.2.2))) ∧ (∀ (l1 : Int32) (l2 : Int32) (l3 : Int32) (l4 : Int32) (I : Nat → Nat → Int32) (J : Nat → Nat → Int64) (r : Int32 × (Nat → Nat → Int32) × (Nat → Nat → Int64)), zl_X11_within N n 31 l1 l2 l3 l4 I J = some r → zz_run (d+5) 151 31 [some (.ref 2), some (.int l1), some (.int l2), some (.int l3), some (.int l4), none] [] (zz_S F I J) (some (.int r.1)) (zz_S F (r.2.1) (r.2.2))) := by
  intro n
  induction n with
  | zero => exact ⟨fun _ _ _ _ _ _ _ h => zz_no h, fun _ _ _ _ _ _ _ h => zz_no h⟩
  | succ n ih =>
    obtain ⟨ih0, ih31⟩ := ih
    refine ⟨?_, ?_⟩
    · intro l1 l2 l3 l4 I J r hr
      rw [ze_X11_within_0] at hr
      unfold zb_X11_within_0 at hr
      refine zs_151_0 ?_
      refine And.intro (Nat.le_of_ble_eq_true rfl) (And.intro (Nat.le_of_ble_eq_true rfl) (And.intro (Nat.le_of_ble_eq_true rfl) ?_))
      refine Exists.intro _ (Exists.intro _ (And.intro (zr_X11_isHour F I J (d+4) l1) ?_))
      refine And.intro (fun (h1 : ¬ (zv_X11_isHour l1) = 0) => ?_) (fun (h1 : ¬ (¬ (zv_X11_isHour l1) = 0)) => ?_)
      · rw [if_pos h1] at hr
        show zz_run _ 151 9 [some (.ref 2), some (.int l1), none, none, none, none] [] (zz_S F I J) _ _
        refine zs_151_9 ?_
        refine And.intro (rfl) (And.intro (rfl) (And.intro (Nat.le_of_ble_eq_true rfl) (And.intro (Nat.le_of_ble_eq_true rfl) (And.intro (Nat.le_of_ble_eq_true rfl) ?_))))
        obtain ⟨r1, cr1, hr⟩ := Option.bind_eq_some_iff.mp hr
        refine Exists.intro _ (Exists.intro _ (And.intro (zr_X11_readyLoom__28 F I J d N  r1 cr1) ?_))
        refine And.intro (rfl) (And.intro (rfl) (And.intro (Nat.le_of_ble_eq_true rfl) (And.intro (Nat.le_of_ble_eq_true rfl) (And.intro (Nat.le_of_ble_eq_true rfl) ?_))))
        obtain ⟨r2, cr2, hr⟩ := Option.bind_eq_some_iff.mp hr
        refine Exists.intro _ (Exists.intro _ (And.intro (zr_X4_fillForth F r1.2.1 J (d+2) N  r2 cr2) ?_))
        exact zz_wk [true, true, true, true, true, false] rfl (ih31 _ _ _ _ _ _ _ hr)
      · rw [if_neg h1] at hr
        replace hr := Option.some.inj hr
        subst hr
        exact And.intro rfl (And.intro rfl rfl)
    · intro l1 l2 l3 l4 I J r hr
      rw [ze_X11_within_31] at hr
      unfold zb_X11_within_31 at hr
      refine zs_151_31 ?_
      refine And.intro (rfl) (And.intro (rfl) (And.intro (Nat.le_of_ble_eq_true rfl) (And.intro (Nat.le_of_ble_eq_true rfl) (And.intro (Nat.le_of_ble_eq_true rfl) ?_))))
      refine Exists.intro _ (Exists.intro _ (And.intro (zr_X4_sizeOf F I J (d+4) 0) ?_))
      refine And.intro (rfl) (And.intro (rfl) (And.intro (Nat.le_of_ble_eq_true rfl) (And.intro (Nat.le_of_ble_eq_true rfl) (And.intro (Nat.le_of_ble_eq_true rfl) ?_))))
      refine Exists.intro _ (Exists.intro _ (And.intro (zr_X4_sizeOf F I J (d+4) 1) ?_))
      refine And.intro (fun (h2 : ((zv_X4_sizeOf I 0) + (zv_X4_sizeOf I 1)) < l4) => ?_) (fun (h2 : ¬ (((zv_X4_sizeOf I 0) + (zv_X4_sizeOf I 1)) < l4)) => ?_)
      · rw [if_pos h2] at hr
        show zz_run _ 151 82 [some (.ref 2), some (.int l1), some (.int l2), some (.int l3), some (.int l4), none] [] (zz_S F I J) _ _
        refine zs_151_82 ?_
        refine And.intro (rfl) (And.intro (Nat.le_of_ble_eq_true rfl) (And.intro (Nat.le_of_ble_eq_true rfl) (And.intro (Nat.le_of_ble_eq_true rfl) ?_)))
        refine Exists.intro _ (Exists.intro _ (And.intro (zr_X11_tell F I J (d+3) l3.toInt64) ?_))
        replace hr := Option.some.inj hr
        subst hr
        exact And.intro rfl (And.intro rfl rfl)
      · rw [if_neg h2] at hr
        refine And.intro (rfl) (And.intro (rfl) (And.intro (Nat.le_of_ble_eq_true rfl) (And.intro (Nat.le_of_ble_eq_true rfl) (And.intro (Nat.le_of_ble_eq_true rfl) ?_))))
        obtain ⟨r3, cr3, hr⟩ := Option.bind_eq_some_iff.mp hr
        refine Exists.intro _ (Exists.intro _ (And.intro (zr_X4_soonestOf F I J (d+3) N l4 r3 cr3) ?_))
        refine And.intro (fun (h3 : l1 < r3.1) => ?_) (fun (h3 : ¬ (l1 < r3.1)) => ?_)
        · rw [if_pos h3] at hr
          show zz_run _ 151 76 [some (.ref 2), some (.int l1), some (.int l2), some (.int l3), some (.int l4), some (.int r3.1)] [] (zz_S F I J) _ _
          refine zs_151_76 ?_
          exact zz_wk [true, true, true, true, true, false] rfl (ih31 _ _ _ _ _ _ _ hr)
        · rw [if_neg h3] at hr
          show zz_run _ 151 76 [some (.ref 2), some (.int l1), some (.int l4), some (.int r3.1), some (.int l4), some (.int r3.1)] [] (zz_S F I J) _ _
          refine zs_151_76 ?_
          exact zz_wk [true, true, true, true, true, false] rfl (ih31 _ _ _ _ _ _ _ hr)
theorem zr_X11_within (F : zz_F) (I : Nat → Nat → Int32) (J : Nat → Nat → Int64) (d N : Nat) (l1 : Int32) (r : Int32 × (Nat → Nat → Int32) × (Nat → Nat → Int64)) (h : zf_X11_within N l1 I J = some r) : zz_run (d+5) 151 0 [some (.ref 2), some (.int l1), none, none, none, none] [] (zz_S F I J) (some (.int r.1)) (zz_S F (r.2.1) (r.2.2)) := (zq_X11_within F d N N).1 l1 0 0 0 I J r h
def zb_X11_cuts_0 (N : Nat) (rec : Nat → Int32 → (Nat → Nat → Int32) → (Nat → Nat → Int64) → Option (Int32 × (Nat → Nat → Int32) × (Nat → Nat → Int64))) (l1 : Int32) (I : Nat → Nat → Int32) (J : Nat → Nat → Int64) : Option (Int32 × (Nat → Nat → Int32) × (Nat → Nat → Int64)) := if ¬ (zv_X11_isHour l1) = 0 then ((zf_X11_readyLoom__28 N  I J).bind fun r1 => (zf_X4_findCut N (r1.2.1 8 2) l1 r1.2.1 J).bind fun r2 => some (r2.1, zw_X11_tell_ r2.2.1 r2.2.2 ((r2.2.1 41 10).toInt64) ((r2.2.1 41 11).toInt64), zx_X11_tell_ r2.2.1 r2.2.2 ((r2.2.1 41 10).toInt64) ((r2.2.1 41 11).toInt64))) else (some ((-1), I, J))
def zl_X11_cuts (N : Nat) : Nat → Nat → Int32 → (Nat → Nat → Int32) → (Nat → Nat → Int64) → Option (Int32 × (Nat → Nat → Int32) × (Nat → Nat → Int64))
  | 0 => fun _ _ _ _ => none
  | n + 1 => fun pc l1 I J => if pc = 0 then zb_X11_cuts_0 N (zl_X11_cuts N n) l1 I J else none
theorem ze_X11_cuts_0 (N : Nat) (n : Nat) (l1 : Int32) (I : Nat → Nat → Int32) (J : Nat → Nat → Int64) : zl_X11_cuts N (n+1) 0 l1 I J = zb_X11_cuts_0 N (zl_X11_cuts N n) l1 I J := by
  show (if 0 = 0 then zb_X11_cuts_0 N (zl_X11_cuts N n) l1 I J else none) = _
  rw [if_pos rfl]
def zf_X11_cuts (N : Nat) (l1 : Int32) (I : Nat → Nat → Int32) (J : Nat → Nat → Int64) : Option (Int32 × (Nat → Nat → Int32) × (Nat → Nat → Int64)) := zl_X11_cuts N N 0 l1 I J
theorem zq_X11_cuts (F : zz_F) (d N : Nat) : ∀ n : Nat, (∀ (l1 : Int32) (I : Nat → Nat → Int32) (J : Nat → Nat → Int64) (r : Int32 × (Nat → Nat → Int32) × (Nat → Nat → Int64)), zl_X11_cuts N n 0 l1 I J = some r → zz_run (d+22) 155 0 [some (.ref 2), some (.int l1), none] [] (zz_S F I J) (some (.int r.1)) (zz_S F (r.2.1) (r.2.2))) := by
  intro n
  induction n with
  | zero => exact fun _ _ _ _ h => zz_no h
  | succ n ih =>
    have ih0 := ih
    skip
    · intro l1 I J r hr
      rw [ze_X11_cuts_0] at hr
      unfold zb_X11_cuts_0 at hr
      refine zs_155_0 ?_
      refine And.intro (Nat.le_of_ble_eq_true rfl) (And.intro (Nat.le_of_ble_eq_true rfl) (And.intro (Nat.le_of_ble_eq_true rfl) ?_))
      refine Exists.intro _ (Exists.intro _ (And.intro (zr_X11_isHour F I J (d+21) l1) ?_))
      refine And.intro (fun (h1 : ¬ (zv_X11_isHour l1) = 0) => ?_) (fun (h1 : ¬ (¬ (zv_X11_isHour l1) = 0)) => ?_)
      · rw [if_pos h1] at hr
        show zz_run _ 155 9 [some (.ref 2), some (.int l1), none] [] (zz_S F I J) _ _
        refine zs_155_9 ?_
        refine And.intro (rfl) (And.intro (rfl) (And.intro (Nat.le_of_ble_eq_true rfl) (And.intro (Nat.le_of_ble_eq_true rfl) (And.intro (Nat.le_of_ble_eq_true rfl) ?_))))
        obtain ⟨r1, cr1, hr⟩ := Option.bind_eq_some_iff.mp hr
        refine Exists.intro _ (Exists.intro _ (And.intro (zr_X11_readyLoom__28 F I J (d+17) N  r1 cr1) ?_))
        refine And.intro (rfl) (And.intro (rfl) (And.intro (rfl) (And.intro (rfl) (And.intro (Nat.le_of_ble_eq_true rfl) (And.intro (Nat.le_of_ble_eq_true rfl) ?_)))))
        refine And.intro (Nat.le_of_ble_eq_true rfl) ?_
        obtain ⟨r2, cr2, hr⟩ := Option.bind_eq_some_iff.mp hr
        refine Exists.intro _ (Exists.intro _ (And.intro (zr_X4_findCut F r1.2.1 J d N (r1.2.1 8 2) l1 r2 cr2) ?_))
        refine And.intro (rfl) (And.intro (rfl) (And.intro (rfl) (And.intro (rfl) (And.intro (rfl) (And.intro (Nat.le_of_ble_eq_true rfl) ?_)))))
        refine And.intro (Nat.le_of_ble_eq_true rfl) (And.intro (Nat.le_of_ble_eq_true rfl) ?_)
        refine Exists.intro _ (Exists.intro _ (And.intro (zr_X11_tell_ F r2.2.1 r2.2.2 (d+19) ((r2.2.1 41 10).toInt64) ((r2.2.1 41 11).toInt64)) ?_))
        replace hr := Option.some.inj hr
        subst hr
        exact And.intro rfl (And.intro rfl rfl)
      · rw [if_neg h1] at hr
        replace hr := Option.some.inj hr
        subst hr
        exact And.intro rfl (And.intro rfl rfl)
theorem zr_X11_cuts (F : zz_F) (I : Nat → Nat → Int32) (J : Nat → Nat → Int64) (d N : Nat) (l1 : Int32) (r : Int32 × (Nat → Nat → Int32) × (Nat → Nat → Int64)) (h : zf_X11_cuts N l1 I J = some r) : zz_run (d+22) 155 0 [some (.ref 2), some (.int l1), none] [] (zz_S F I J) (some (.int r.1)) (zz_S F (r.2.1) (r.2.2)) := (zq_X11_cuts F d N N) l1 I J r h
def zb_X11_rests_0 (N : Nat) (rec : Nat → Int32 → Int32 → Int32 → Int32 → (Nat → Nat → Int32) → (Nat → Nat → Int64) → Option (Int32 × (Nat → Nat → Int32) × (Nat → Nat → Int64))) (l1 : Int32) (l2 : Int32) (l3 : Int32) (l4 : Int32) (I : Nat → Nat → Int32) (J : Nat → Nat → Int64) : Option (Int32 × (Nat → Nat → Int32) × (Nat → Nat → Int64)) := if l1 < 0 then (rec 10 0 0 0 0 I J) else (if l1 ≤ 20 then (rec 16 l1 0 0 0 I J) else (rec 10 0 0 0 0 I J))
def zb_X11_rests_10 (N : Nat) (rec : Nat → Int32 → Int32 → Int32 → Int32 → (Nat → Nat → Int32) → (Nat → Nat → Int64) → Option (Int32 × (Nat → Nat → Int32) × (Nat → Nat → Int64))) (l1 : Int32) (l2 : Int32) (l3 : Int32) (l4 : Int32) (I : Nat → Nat → Int32) (J : Nat → Nat → Int64) : Option (Int32 × (Nat → Nat → Int32) × (Nat → Nat → Int64)) := some ((-1), I, J)
def zb_X11_rests_16 (N : Nat) (rec : Nat → Int32 → Int32 → Int32 → Int32 → (Nat → Nat → Int32) → (Nat → Nat → Int64) → Option (Int32 × (Nat → Nat → Int32) × (Nat → Nat → Int64))) (l1 : Int32) (l2 : Int32) (l3 : Int32) (l4 : Int32) (I : Nat → Nat → Int32) (J : Nat → Nat → Int64) : Option (Int32 × (Nat → Nat → Int32) × (Nat → Nat → Int64)) := if l1 < l3 then (some (l2, I, J)) else (rec 24 l1 l2 l3 0 I J)
def zb_X11_rests_24 (N : Nat) (rec : Nat → Int32 → Int32 → Int32 → Int32 → (Nat → Nat → Int32) → (Nat → Nat → Int64) → Option (Int32 × (Nat → Nat → Int32) × (Nat → Nat → Int64))) (l1 : Int32) (l2 : Int32) (l3 : Int32) (l4 : Int32) (I : Nat → Nat → Int32) (J : Nat → Nat → Int64) : Option (Int32 × (Nat → Nat → Int32) × (Nat → Nat → Int64)) := if l1 < l4 then (rec 16 l1 l2 (l3 + 1) 0 I J) else ((zf_X2_atRest N l1 l3 l4 I J).bind fun r1 => if r1.1 = 0 then (rec 61 l1 l2 l3 l4 I J) else (if ¬ (l2 + 1) = 1 then (rec 61 l1 (l2 + 1) l3 l4 I J) else (rec 61 l1 (l2 + 1) l3 l4 (zw_X11_tell_ I J l3.toInt64 l4.toInt64) (zx_X11_tell_ I J l3.toInt64 l4.toInt64))))
def zb_X11_rests_61 (N : Nat) (rec : Nat → Int32 → Int32 → Int32 → Int32 → (Nat → Nat → Int32) → (Nat → Nat → Int64) → Option (Int32 × (Nat → Nat → Int32) × (Nat → Nat → Int64))) (l1 : Int32) (l2 : Int32) (l3 : Int32) (l4 : Int32) (I : Nat → Nat → Int32) (J : Nat → Nat → Int64) : Option (Int32 × (Nat → Nat → Int32) × (Nat → Nat → Int64)) := rec 24 l1 l2 l3 (l4 + 1) I J
def zl_X11_rests (N : Nat) : Nat → Nat → Int32 → Int32 → Int32 → Int32 → (Nat → Nat → Int32) → (Nat → Nat → Int64) → Option (Int32 × (Nat → Nat → Int32) × (Nat → Nat → Int64))
  | 0 => fun _ _ _ _ _ _ _ => none
  | n + 1 => fun pc l1 l2 l3 l4 I J => if pc = 0 then zb_X11_rests_0 N (zl_X11_rests N n) l1 l2 l3 l4 I J else (if pc = 10 then zb_X11_rests_10 N (zl_X11_rests N n) l1 l2 l3 l4 I J else (if pc = 16 then zb_X11_rests_16 N (zl_X11_rests N n) l1 l2 l3 l4 I J else (if pc = 24 then zb_X11_rests_24 N (zl_X11_rests N n) l1 l2 l3 l4 I J else (if pc = 61 then zb_X11_rests_61 N (zl_X11_rests N n) l1 l2 l3 l4 I J else none))))
theorem ze_X11_rests_0 (N : Nat) (n : Nat) (l1 : Int32) (l2 : Int32) (l3 : Int32) (l4 : Int32) (I : Nat → Nat → Int32) (J : Nat → Nat → Int64) : zl_X11_rests N (n+1) 0 l1 l2 l3 l4 I J = zb_X11_rests_0 N (zl_X11_rests N n) l1 l2 l3 l4 I J := by
  show (if 0 = 0 then zb_X11_rests_0 N (zl_X11_rests N n) l1 l2 l3 l4 I J else (if 0 = 10 then zb_X11_rests_10 N (zl_X11_rests N n) l1 l2 l3 l4 I J else (if 0 = 16 then zb_X11_rests_16 N (zl_X11_rests N n) l1 l2 l3 l4 I J else (if 0 = 24 then zb_X11_rests_24 N (zl_X11_rests N n) l1 l2 l3 l4 I J else (if 0 = 61 then zb_X11_rests_61 N (zl_X11_rests N n) l1 l2 l3 l4 I J else none))))) = _
  rw [if_pos rfl]
theorem ze_X11_rests_10 (N : Nat) (n : Nat) (l1 : Int32) (l2 : Int32) (l3 : Int32) (l4 : Int32) (I : Nat → Nat → Int32) (J : Nat → Nat → Int64) : zl_X11_rests N (n+1) 10 l1 l2 l3 l4 I J = zb_X11_rests_10 N (zl_X11_rests N n) l1 l2 l3 l4 I J := by
  show (if 10 = 0 then zb_X11_rests_0 N (zl_X11_rests N n) l1 l2 l3 l4 I J else (if 10 = 10 then zb_X11_rests_10 N (zl_X11_rests N n) l1 l2 l3 l4 I J else (if 10 = 16 then zb_X11_rests_16 N (zl_X11_rests N n) l1 l2 l3 l4 I J else (if 10 = 24 then zb_X11_rests_24 N (zl_X11_rests N n) l1 l2 l3 l4 I J else (if 10 = 61 then zb_X11_rests_61 N (zl_X11_rests N n) l1 l2 l3 l4 I J else none))))) = _
  rw [if_neg (by decide), if_pos rfl]
theorem ze_X11_rests_16 (N : Nat) (n : Nat) (l1 : Int32) (l2 : Int32) (l3 : Int32) (l4 : Int32) (I : Nat → Nat → Int32) (J : Nat → Nat → Int64) : zl_X11_rests N (n+1) 16 l1 l2 l3 l4 I J = zb_X11_rests_16 N (zl_X11_rests N n) l1 l2 l3 l4 I J := by
  show (if 16 = 0 then zb_X11_rests_0 N (zl_X11_rests N n) l1 l2 l3 l4 I J else (if 16 = 10 then zb_X11_rests_10 N (zl_X11_rests N n) l1 l2 l3 l4 I J else (if 16 = 16 then zb_X11_rests_16 N (zl_X11_rests N n) l1 l2 l3 l4 I J else (if 16 = 24 then zb_X11_rests_24 N (zl_X11_rests N n) l1 l2 l3 l4 I J else (if 16 = 61 then zb_X11_rests_61 N (zl_X11_rests N n) l1 l2 l3 l4 I J else none))))) = _
  rw [if_neg (by decide), if_neg (by decide), if_pos rfl]
theorem ze_X11_rests_24 (N : Nat) (n : Nat) (l1 : Int32) (l2 : Int32) (l3 : Int32) (l4 : Int32) (I : Nat → Nat → Int32) (J : Nat → Nat → Int64) : zl_X11_rests N (n+1) 24 l1 l2 l3 l4 I J = zb_X11_rests_24 N (zl_X11_rests N n) l1 l2 l3 l4 I J := by
  show (if 24 = 0 then zb_X11_rests_0 N (zl_X11_rests N n) l1 l2 l3 l4 I J else (if 24 = 10 then zb_X11_rests_10 N (zl_X11_rests N n) l1 l2 l3 l4 I J else (if 24 = 16 then zb_X11_rests_16 N (zl_X11_rests N n) l1 l2 l3 l4 I J else (if 24 = 24 then zb_X11_rests_24 N (zl_X11_rests N n) l1 l2 l3 l4 I J else (if 24 = 61 then zb_X11_rests_61 N (zl_X11_rests N n) l1 l2 l3 l4 I J else none))))) = _
  rw [if_neg (by decide), if_neg (by decide), if_neg (by decide), if_pos rfl]
theorem ze_X11_rests_61 (N : Nat) (n : Nat) (l1 : Int32) (l2 : Int32) (l3 : Int32) (l4 : Int32) (I : Nat → Nat → Int32) (J : Nat → Nat → Int64) : zl_X11_rests N (n+1) 61 l1 l2 l3 l4 I J = zb_X11_rests_61 N (zl_X11_rests N n) l1 l2 l3 l4 I J := by
  show (if 61 = 0 then zb_X11_rests_0 N (zl_X11_rests N n) l1 l2 l3 l4 I J else (if 61 = 10 then zb_X11_rests_10 N (zl_X11_rests N n) l1 l2 l3 l4 I J else (if 61 = 16 then zb_X11_rests_16 N (zl_X11_rests N n) l1 l2 l3 l4 I J else (if 61 = 24 then zb_X11_rests_24 N (zl_X11_rests N n) l1 l2 l3 l4 I J else (if 61 = 61 then zb_X11_rests_61 N (zl_X11_rests N n) l1 l2 l3 l4 I J else none))))) = _
  rw [if_neg (by decide), if_neg (by decide), if_neg (by decide), if_neg (by decide), if_pos rfl]
def zf_X11_rests (N : Nat) (l1 : Int32) (I : Nat → Nat → Int32) (J : Nat → Nat → Int64) : Option (Int32 × (Nat → Nat → Int32) × (Nat → Nat → Int64)) := zl_X11_rests N N 0 l1 0 0 0 I J
theorem zq_X11_rests (F : zz_F) (d N : Nat) : ∀ n : Nat, (∀ (l1 : Int32) (l2 : Int32) (l3 : Int32) (l4 : Int32) (I : Nat → Nat → Int32) (J : Nat → Nat → Int64) (r : Int32 × (Nat → Nat → Int32) × (Nat → Nat → Int64)), zl_X11_rests N n 0 l1 l2 l3 l4 I J = some r → zz_run (d+3) 166 0 [some (.ref 2), some (.int l1), none, none, none] [] (zz_S F I J) (some (.int r.1)) (zz_S F (r.2.1) (r.2.2))) ∧ (∀ (l1 : Int32) (l2 : Int32) (l3 : Int32) (l4 : Int32) (I : Nat → Nat → Int32) (J : Nat → Nat → Int64) (r : Int32 × (Nat → Nat → Int32) × (Nat → Nat → Int64)), zl_X11_rests N n 10 l1 l2 l3 l4 I J = some r → zz_run (d+3) 166 10 [some (.ref 2), none, none, none, none] [] (zz_S F I J) (some (.int r.1)) (zz_S F (r.2.1) (r.2.2))) ∧ (∀ (l1 : Int32) (l2 : Int32) (l3 : Int32) (l4 : Int32) (I : Nat → Nat → Int32) (J : Nat → Nat → Int64) (r : Int32 × (Nat → Nat → Int32) × (Nat → Nat → Int64)), zl_X11_rests N n 16 l1 l2 l3 l4 I J = some r → zz_run (d+3) 166 16 [some (.ref 2), some (.int l1), some (.int l2), some (.int l3), none] [] (zz_S F I J) (some (.int r.1)) (zz_S F (r.2.1) (r.2.2))) ∧ (∀ (l1 : Int32) (l2 : Int32) (l3 : Int32) (l4 : Int32) (I : Nat → Nat → Int32) (J : Nat → Nat → Int64) (r : Int32 × (Nat → Nat → Int32) × (Nat → Nat → Int64)), zl_X11_rests N n 24 l1 l2 l3 l4 I J = some r → zz_run (d+3) 166 24 [some (.ref 2), some (.int l1), some (.int l2), some (.int l3), some (.int l4)] [] (zz_S F I J) (some (.int r.1)) (zz_S F (r.2.1) (r.2.2))) ∧ (∀ (l1 : Int32) (l2 : Int32) (l3 : Int32) (l4 : Int32) (I : Nat → Nat → Int32) (J : Nat → Nat → Int64) (r : Int32 × (Nat → Nat → Int32) × (Nat → Nat → Int64)), zl_X11_rests N n 61 l1 l2 l3 l4 I J = some r → zz_run (d+3) 166 61 [some (.ref 2), some (.int l1), some (.int l2), some (.int l3), some (.int l4)] [] (zz_S F I J) (some (.int r.1)) (zz_S F (r.2.1) (r.2.2))) := by
  intro n
  induction n with
  | zero => exact ⟨fun _ _ _ _ _ _ _ h => zz_no h, fun _ _ _ _ _ _ _ h => zz_no h, fun _ _ _ _ _ _ _ h => zz_no h, fun _ _ _ _ _ _ _ h => zz_no h, fun _ _ _ _ _ _ _ h => zz_no h⟩
  | succ n ih =>
    obtain ⟨ih0, ih10, ih16, ih24, ih61⟩ := ih
    refine ⟨?_, ?_, ?_, ?_, ?_⟩
    · intro l1 l2 l3 l4 I J r hr
      rw [ze_X11_rests_0] at hr
      unfold zb_X11_rests_0 at hr
      refine zs_166_0 ?_
      refine And.intro (fun (h1 : l1 < 0) => ?_) (fun (h1 : ¬ (l1 < 0)) => ?_)
      · rw [if_pos h1] at hr
        exact zz_wk [true, false, false, false, false] rfl (ih10 _ _ _ _ _ _ _ hr)
      · rw [if_neg h1] at hr
        refine And.intro (fun (h2 : l1 ≤ 20) => ?_) (fun (h2 : ¬ (l1 ≤ 20)) => ?_)
        · rw [if_pos h2] at hr
          show zz_run _ 166 12 [some (.ref 2), some (.int l1), none, none, none] [] (zz_S F I J) _ _
          refine zs_166_12 ?_
          exact zz_wk [true, true, true, true, false] rfl (ih16 _ _ _ _ _ _ _ hr)
        · rw [if_neg h2] at hr
          exact zz_wk [true, false, false, false, false] rfl (ih10 _ _ _ _ _ _ _ hr)
    · intro l1 l2 l3 l4 I J r hr
      rw [ze_X11_rests_10] at hr
      unfold zb_X11_rests_10 at hr
      refine zs_166_10 ?_
      replace hr := Option.some.inj hr
      subst hr
      exact And.intro rfl (And.intro rfl rfl)
    · intro l1 l2 l3 l4 I J r hr
      rw [ze_X11_rests_16] at hr
      unfold zb_X11_rests_16 at hr
      refine zs_166_16 ?_
      refine And.intro (fun (h3 : l1 < l3) => ?_) (fun (h3 : ¬ (l1 < l3)) => ?_)
      · rw [if_pos h3] at hr
        show zz_run _ 166 73 [some (.ref 2), some (.int l1), some (.int l2), some (.int l3), none] [] (zz_S F I J) _ _
        refine zs_166_73 ?_
        replace hr := Option.some.inj hr
        subst hr
        exact And.intro rfl (And.intro rfl rfl)
      · rw [if_neg h3] at hr
        exact zz_wk [true, true, true, true, true] rfl (ih24 _ _ _ _ _ _ _ hr)
    · intro l1 l2 l3 l4 I J r hr
      rw [ze_X11_rests_24] at hr
      unfold zb_X11_rests_24 at hr
      refine zs_166_24 ?_
      refine And.intro (fun (h4 : l1 < l4) => ?_) (fun (h4 : ¬ (l1 < l4)) => ?_)
      · rw [if_pos h4] at hr
        show zz_run _ 166 67 [some (.ref 2), some (.int l1), some (.int l2), some (.int l3), some (.int l4)] [] (zz_S F I J) _ _
        refine zs_166_67 ?_
        exact zz_wk [true, true, true, true, false] rfl (ih16 _ _ _ _ _ _ _ hr)
      · rw [if_neg h4] at hr
        refine And.intro (rfl) (And.intro (rfl) (And.intro (Nat.le_of_ble_eq_true rfl) (And.intro (Nat.le_of_ble_eq_true rfl) (And.intro (Nat.le_of_ble_eq_true rfl) ?_))))
        obtain ⟨r1, cr1, hr⟩ := Option.bind_eq_some_iff.mp hr
        refine Exists.intro _ (Exists.intro _ (And.intro (zr_X2_atRest F I J d N l1 l3 l4 r1 cr1) ?_))
        refine And.intro (fun (h5 : r1.1 = 0) => ?_) (fun (h5 : ¬ (r1.1 = 0)) => ?_)
        · rw [if_pos h5] at hr
          exact zz_wk [true, true, true, true, true] rfl (ih61 _ _ _ _ _ _ _ hr)
        · rw [if_neg h5] at hr
          refine And.intro (fun (h6 : ¬ (l2 + 1) = 1) => ?_) (fun (h6 : ¬ (¬ (l2 + 1) = 1)) => ?_)
          · rw [if_pos h6] at hr
            exact zz_wk [true, true, true, true, true] rfl (ih61 _ _ _ _ _ _ _ hr)
          · rw [if_neg h6] at hr
            refine And.intro (rfl) (And.intro (Nat.le_of_ble_eq_true rfl) (And.intro (Nat.le_of_ble_eq_true rfl) (And.intro (Nat.le_of_ble_eq_true rfl) ?_)))
            refine Exists.intro _ (Exists.intro _ (And.intro (zr_X11_tell_ F I J d l3.toInt64 l4.toInt64) ?_))
            exact zz_wk [true, true, true, true, true] rfl (ih61 _ _ _ _ _ _ _ hr)
    · intro l1 l2 l3 l4 I J r hr
      rw [ze_X11_rests_61] at hr
      unfold zb_X11_rests_61 at hr
      refine zs_166_61 ?_
      exact zz_wk [true, true, true, true, true] rfl (ih24 _ _ _ _ _ _ _ hr)
theorem zr_X11_rests (F : zz_F) (I : Nat → Nat → Int32) (J : Nat → Nat → Int64) (d N : Nat) (l1 : Int32) (r : Int32 × (Nat → Nat → Int32) × (Nat → Nat → Int64)) (h : zf_X11_rests N l1 I J = some r) : zz_run (d+3) 166 0 [some (.ref 2), some (.int l1), none, none, none] [] (zz_S F I J) (some (.int r.1)) (zz_S F (r.2.1) (r.2.2)) := (zq_X11_rests F d N N).1 l1 0 0 0 I J r h
def zb_X11_law_0 (N : Nat) (rec : Nat → (Nat → Nat → Int32) → (Nat → Nat → Int64) → Option (Int32 × (Nat → Nat → Int32) × (Nat → Nat → Int64)))  (I : Nat → Nat → Int32) (J : Nat → Nat → Int64) : Option (Int32 × (Nat → Nat → Int32) × (Nat → Nat → Int64)) := if ¬ (zv_X11_takeText I) = 0 then ((zf_X7_faultIn_X8__3 N (zv_X11_takeText I) 40 (zw_X11_takeText I) J).bind fun r1 => if r1.1 = ((-1)) then ((zf_X1_takeFrom_32__37 N  r1.2.1 J).bind fun r2 => (zf_X11_readyLoom__32 N  r2.2.1 J).bind fun r3 => (zf_X4_shortest N  r3.2.1 J).bind fun r4 => (zf_X11_readyLoom__28 N  r4.2.1 J).bind fun r5 => (zf_X4_shortest N  r5.2.1 J).bind fun r6 => some (r4.1 - r6.1, zw_X11_tell_ r6.2.1 J r4.1.toInt64 r6.1.toInt64, zx_X11_tell_ r6.2.1 J r4.1.toInt64 r6.1.toInt64)) else (some (((-10000)) - r1.1, r1.2.1, J))) else ((zf_X1_takePlain_32 N  (zw_X11_takeText I) J).bind fun r7 => (zf_X11_readyLoom__32 N  r7.2.1 J).bind fun r8 => (zf_X4_shortest N  r8.2.1 J).bind fun r9 => (zf_X11_readyLoom__28 N  r9.2.1 J).bind fun r10 => (zf_X4_shortest N  r10.2.1 J).bind fun r11 => some (r9.1 - r11.1, zw_X11_tell_ r11.2.1 J r9.1.toInt64 r11.1.toInt64, zx_X11_tell_ r11.2.1 J r9.1.toInt64 r11.1.toInt64))
def zl_X11_law (N : Nat) : Nat → Nat → (Nat → Nat → Int32) → (Nat → Nat → Int64) → Option (Int32 × (Nat → Nat → Int32) × (Nat → Nat → Int64))
  | 0 => fun _ _ _ => none
  | n + 1 => fun pc  I J => if pc = 0 then zb_X11_law_0 N (zl_X11_law N n)  I J else none
theorem ze_X11_law_0 (N : Nat) (n : Nat)  (I : Nat → Nat → Int32) (J : Nat → Nat → Int64) : zl_X11_law N (n+1) 0  I J = zb_X11_law_0 N (zl_X11_law N n)  I J := by
  show (if 0 = 0 then zb_X11_law_0 N (zl_X11_law N n)  I J else none) = _
  rw [if_pos rfl]
def zf_X11_law (N : Nat)  (I : Nat → Nat → Int32) (J : Nat → Nat → Int64) : Option (Int32 × (Nat → Nat → Int32) × (Nat → Nat → Int64)) := zl_X11_law N N 0  I J
theorem zq_X11_law (F : zz_F) (d N : Nat) : ∀ n : Nat, (∀  (I : Nat → Nat → Int32) (J : Nat → Nat → Int64) (r : Int32 × (Nat → Nat → Int32) × (Nat → Nat → Int64)), zl_X11_law N n 0  I J = some r → zz_run (d+6) 172 0 [some (.ref 2), none, none, none] [] (zz_S F I J) (some (.int r.1)) (zz_S F (r.2.1) (r.2.2))) := by
  intro n
  induction n with
  | zero => exact fun _ _ _ h => zz_no h
  | succ n ih =>
    have ih0 := ih
    skip
    · intro  I J r hr
      rw [ze_X11_law_0] at hr
      unfold zb_X11_law_0 at hr
      refine zs_172_0 ?_
      refine And.intro (rfl) (And.intro (Nat.le_of_ble_eq_true rfl) (And.intro (Nat.le_of_ble_eq_true rfl) (And.intro (Nat.le_of_ble_eq_true rfl) ?_)))
      refine Exists.intro _ (Exists.intro _ (And.intro (zr_X11_takeText F I J (d+5) ) ?_))
      refine And.intro (fun (h1 : ¬ (zv_X11_takeText I) = 0) => ?_) (fun (h1 : ¬ (¬ (zv_X11_takeText I) = 0)) => ?_)
      · rw [if_pos h1] at hr
        show zz_run _ 172 19 [some (.ref 2), some (.int (zv_X11_takeText I)), none, none] [] (zz_S F (zw_X11_takeText I) J) _ _
        refine zs_172_19 ?_
        refine And.intro (rfl) (And.intro (rfl) (And.intro (rfl) (And.intro (Nat.le_of_ble_eq_true rfl) (And.intro (Nat.le_of_ble_eq_true rfl) (And.intro (Nat.le_of_ble_eq_true rfl) ?_)))))
        obtain ⟨r1, cr1, hr⟩ := Option.bind_eq_some_iff.mp hr
        refine Exists.intro _ (Exists.intro _ (And.intro (zr_X7_faultIn_X8__3 F (zw_X11_takeText I) J d N (zv_X11_takeText I) 40 r1 cr1) ?_))
        refine And.intro (fun (h2 : r1.1 = ((-1))) => ?_) (fun (h2 : ¬ (r1.1 = ((-1)))) => ?_)
        · rw [if_pos h2] at hr
          show zz_run _ 172 45 [some (.ref 2), some (.int (zv_X11_takeText I)), some (.int r1.1), none] [] (zz_S F r1.2.1 J) _ _
          refine zs_172_45 ?_
          refine And.intro (rfl) (And.intro (rfl) (And.intro (rfl) (And.intro (Nat.le_of_ble_eq_true rfl) (And.intro (Nat.le_of_ble_eq_true rfl) (And.intro (Nat.le_of_ble_eq_true rfl) ?_)))))
          obtain ⟨r2, cr2, hr⟩ := Option.bind_eq_some_iff.mp hr
          refine Exists.intro _ (Exists.intro _ (And.intro (zr_X1_takeFrom_32__37 F r1.2.1 J (d+3) N  r2 cr2) ?_))
          show zz_run _ 172 56 [some (.ref 2), some (.int (zv_X11_takeText I)), some (.int r1.1), none] [] (zz_S F r2.2.1 J) _ _
          refine zs_172_56 ?_
          refine And.intro (rfl) (And.intro (rfl) (And.intro (Nat.le_of_ble_eq_true rfl) (And.intro (Nat.le_of_ble_eq_true rfl) (And.intro (Nat.le_of_ble_eq_true rfl) ?_))))
          obtain ⟨r3, cr3, hr⟩ := Option.bind_eq_some_iff.mp hr
          refine Exists.intro _ (Exists.intro _ (And.intro (zr_X11_readyLoom__32 F r2.2.1 J (d+1) N  r3 cr3) ?_))
          refine And.intro (rfl) (And.intro (rfl) (And.intro (Nat.le_of_ble_eq_true rfl) (And.intro (Nat.le_of_ble_eq_true rfl) (And.intro (Nat.le_of_ble_eq_true rfl) ?_))))
          obtain ⟨r4, cr4, hr⟩ := Option.bind_eq_some_iff.mp hr
          refine Exists.intro _ (Exists.intro _ (And.intro (zr_X4_shortest F r3.2.1 J (d+1) N  r4 cr4) ?_))
          refine And.intro (rfl) (And.intro (rfl) (And.intro (Nat.le_of_ble_eq_true rfl) (And.intro (Nat.le_of_ble_eq_true rfl) (And.intro (Nat.le_of_ble_eq_true rfl) ?_))))
          obtain ⟨r5, cr5, hr⟩ := Option.bind_eq_some_iff.mp hr
          refine Exists.intro _ (Exists.intro _ (And.intro (zr_X11_readyLoom__28 F r4.2.1 J (d+1) N  r5 cr5) ?_))
          refine And.intro (rfl) (And.intro (rfl) (And.intro (Nat.le_of_ble_eq_true rfl) (And.intro (Nat.le_of_ble_eq_true rfl) (And.intro (Nat.le_of_ble_eq_true rfl) ?_))))
          obtain ⟨r6, cr6, hr⟩ := Option.bind_eq_some_iff.mp hr
          refine Exists.intro _ (Exists.intro _ (And.intro (zr_X4_shortest F r5.2.1 J (d+1) N  r6 cr6) ?_))
          refine And.intro (rfl) (And.intro (Nat.le_of_ble_eq_true rfl) (And.intro (Nat.le_of_ble_eq_true rfl) (And.intro (Nat.le_of_ble_eq_true rfl) ?_)))
          refine Exists.intro _ (Exists.intro _ (And.intro (zr_X11_tell_ F r6.2.1 J (d+3) r4.1.toInt64 r6.1.toInt64) ?_))
          replace hr := Option.some.inj hr
          subst hr
          exact And.intro rfl (And.intro rfl rfl)
        · rw [if_neg h2] at hr
          replace hr := Option.some.inj hr
          subst hr
          exact And.intro rfl (And.intro rfl rfl)
      · rw [if_neg h1] at hr
        refine And.intro (rfl) (And.intro (rfl) (And.intro (Nat.le_of_ble_eq_true rfl) (And.intro (Nat.le_of_ble_eq_true rfl) (And.intro (Nat.le_of_ble_eq_true rfl) ?_))))
        obtain ⟨r7, cr7, hr⟩ := Option.bind_eq_some_iff.mp hr
        refine Exists.intro _ (Exists.intro _ (And.intro (zr_X1_takePlain_32 F (zw_X11_takeText I) J (d+3) N  r7 cr7) ?_))
        show zz_run _ 172 56 [some (.ref 2), some (.int (zv_X11_takeText I)), none, none] [] (zz_S F r7.2.1 J) _ _
        refine zs_172_56 ?_
        refine And.intro (rfl) (And.intro (rfl) (And.intro (Nat.le_of_ble_eq_true rfl) (And.intro (Nat.le_of_ble_eq_true rfl) (And.intro (Nat.le_of_ble_eq_true rfl) ?_))))
        obtain ⟨r8, cr8, hr⟩ := Option.bind_eq_some_iff.mp hr
        refine Exists.intro _ (Exists.intro _ (And.intro (zr_X11_readyLoom__32 F r7.2.1 J (d+1) N  r8 cr8) ?_))
        refine And.intro (rfl) (And.intro (rfl) (And.intro (Nat.le_of_ble_eq_true rfl) (And.intro (Nat.le_of_ble_eq_true rfl) (And.intro (Nat.le_of_ble_eq_true rfl) ?_))))
        obtain ⟨r9, cr9, hr⟩ := Option.bind_eq_some_iff.mp hr
        refine Exists.intro _ (Exists.intro _ (And.intro (zr_X4_shortest F r8.2.1 J (d+1) N  r9 cr9) ?_))
        refine And.intro (rfl) (And.intro (rfl) (And.intro (Nat.le_of_ble_eq_true rfl) (And.intro (Nat.le_of_ble_eq_true rfl) (And.intro (Nat.le_of_ble_eq_true rfl) ?_))))
        obtain ⟨r10, cr10, hr⟩ := Option.bind_eq_some_iff.mp hr
        refine Exists.intro _ (Exists.intro _ (And.intro (zr_X11_readyLoom__28 F r9.2.1 J (d+1) N  r10 cr10) ?_))
        refine And.intro (rfl) (And.intro (rfl) (And.intro (Nat.le_of_ble_eq_true rfl) (And.intro (Nat.le_of_ble_eq_true rfl) (And.intro (Nat.le_of_ble_eq_true rfl) ?_))))
        obtain ⟨r11, cr11, hr⟩ := Option.bind_eq_some_iff.mp hr
        refine Exists.intro _ (Exists.intro _ (And.intro (zr_X4_shortest F r10.2.1 J (d+1) N  r11 cr11) ?_))
        refine And.intro (rfl) (And.intro (Nat.le_of_ble_eq_true rfl) (And.intro (Nat.le_of_ble_eq_true rfl) (And.intro (Nat.le_of_ble_eq_true rfl) ?_)))
        refine Exists.intro _ (Exists.intro _ (And.intro (zr_X11_tell_ F r11.2.1 J (d+3) r9.1.toInt64 r11.1.toInt64) ?_))
        replace hr := Option.some.inj hr
        subst hr
        exact And.intro rfl (And.intro rfl rfl)
theorem zr_X11_law (F : zz_F) (I : Nat → Nat → Int32) (J : Nat → Nat → Int64) (d N : Nat)  (r : Int32 × (Nat → Nat → Int32) × (Nat → Nat → Int64)) (h : zf_X11_law N  I J = some r) : zz_run (d+6) 172 0 [some (.ref 2), none, none, none] [] (zz_S F I J) (some (.int r.1)) (zz_S F (r.2.1) (r.2.2)) := (zq_X11_law F d N N)  I J r h
