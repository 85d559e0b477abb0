/-! methods with loops, printed by wip/whole/loop.py -/
def zb_X11_who_0 (N : Nat) (rec : Nat → Int32 → Int32 → (Nat → Nat → Int32) → (Nat → Nat → Int64) → Option (Int32 × (Nat → Nat → Int32) × (Nat → Nat → Int64))) (l1 : Int32) (l2 : Int32) (I : Nat → Nat → Int32) (J : Nat → Nat → Int64) : Option (Int32 × (Nat → Nat → Int32) × (Nat → Nat → Int64)) := if ¬ (zv_X11_isPerson l1) = 0 then ((zf_X2_scenesWith N ((1 : Int32) <<< (l1 &&& 31)) I J).bind fun r1 => some (r1.1, zw_X11_tell_ I J ((zv_J6_bitCount (r1.1 &&& (zv_X9_scenesOf I 0))).toInt64) ((zv_J6_bitCount (r1.1 &&& (zv_X9_scenesOf I 1))).toInt64), zx_X11_tell_ I J ((zv_J6_bitCount (r1.1 &&& (zv_X9_scenesOf I 0))).toInt64) ((zv_J6_bitCount (r1.1 &&& (zv_X9_scenesOf I 1))).toInt64))) else (some ((-1), I, J))
def zl_X11_who (N : Nat) : Nat → Nat → Int32 → Int32 → (Nat → Nat → Int32) → (Nat → Nat → Int64) → Option (Int32 × (Nat → Nat → Int32) × (Nat → Nat → Int64))
  | 0 => fun _ _ _ _ _ => none
  | n + 1 => fun pc l1 l2 I J => if pc = 0 then zb_X11_who_0 N (zl_X11_who N n) l1 l2 I J else none
def zf_X11_who (N : Nat) (l1 : Int32) (I : Nat → Nat → Int32) (J : Nat → Nat → Int64) : Option (Int32 × (Nat → Nat → Int32) × (Nat → Nat → Int64)) := zl_X11_who N N 0 l1 0 I J
theorem zq_X11_who (F : zz_F) (d N : Nat) : ∀ n : Nat, (∀ (l1 : Int32) (l2 : Int32) (I : Nat → Nat → Int32) (J : Nat → Nat → Int64) (r : Int32 × (Nat → Nat → Int32) × (Nat → Nat → Int64)), zl_X11_who N n 0 l1 l2 I J = some r → zz_run (d+3) 160 0 [some (.ref 2), some (.int (l1)), none] [] (zz_S F I J) (some (.int (r.1))) (zz_S F (r.2.1) (r.2.2))) := by
  intro n
  induction n with
  | zero => exact fun _ _ _ _ _ h => zz_no h
  | succ n ih =>
    have ih0 := ih
    skip
    · intro l1 l2 I J r hr
      replace hr : zb_X11_who_0 N (zl_X11_who N n) l1 l2 I J = some r := hr
      unfold zb_X11_who_0 at hr
      refine zs_160_0 ?_
      repeat' first | refine And.intro rfl ?_ | refine And.intro (Or.inl rfl) ?_ | refine And.intro (Or.inr rfl) ?_ | refine And.intro (Nat.le_of_ble_eq_true rfl) ?_ | refine And.intro (And.intro rfl rfl) ?_ | exact rfl
      refine Exists.intro _ (Exists.intro _ (And.intro (zr_X11_isPerson F I J (d+2) l1) ?_))
      repeat' first | refine And.intro rfl ?_ | refine And.intro (Or.inl rfl) ?_ | refine And.intro (Or.inr rfl) ?_ | refine And.intro (Nat.le_of_ble_eq_true rfl) ?_ | refine And.intro (And.intro rfl rfl) ?_ | exact rfl
      refine And.intro (fun (h1 : ¬ (zv_X11_isPerson l1) = 0) => ?_) (fun (h1 : ¬ (¬ (zv_X11_isPerson l1) = 0)) => ?_)
      · rw [if_pos h1] at hr
        refine zs_160_9 ?_
        repeat' first | refine And.intro rfl ?_ | refine And.intro (Or.inl rfl) ?_ | refine And.intro (Or.inr rfl) ?_ | refine And.intro (Nat.le_of_ble_eq_true rfl) ?_ | refine And.intro (And.intro rfl rfl) ?_ | exact rfl
        obtain ⟨r1, cr1, hr⟩ := Option.bind_eq_some_iff.mp hr
        refine Exists.intro _ (Exists.intro _ (And.intro (zr_X2_scenesWith F I J (d+1) N ((1 : Int32) <<< (l1 &&& 31)) r1 cr1) ?_))
        repeat' first | refine And.intro rfl ?_ | refine And.intro (Or.inl rfl) ?_ | refine And.intro (Or.inr rfl) ?_ | refine And.intro (Nat.le_of_ble_eq_true rfl) ?_ | refine And.intro (And.intro rfl rfl) ?_ | exact rfl
        refine Exists.intro _ (Exists.intro _ (And.intro (zr_X9_scenesOf F I J (d+2) 0) ?_))
        repeat' first | refine And.intro rfl ?_ | refine And.intro (Or.inl rfl) ?_ | refine And.intro (Or.inr rfl) ?_ | refine And.intro (Nat.le_of_ble_eq_true rfl) ?_ | refine And.intro (And.intro rfl rfl) ?_ | exact rfl
        refine Exists.intro _ (Exists.intro _ (And.intro (zr_J6_bitCount F I J (d+2) (r1.1 &&& (zv_X9_scenesOf I 0))) ?_))
        repeat' first | refine And.intro rfl ?_ | refine And.intro (Or.inl rfl) ?_ | refine And.intro (Or.inr rfl) ?_ | refine And.intro (Nat.le_of_ble_eq_true rfl) ?_ | refine And.intro (And.intro rfl rfl) ?_ | exact rfl
        refine Exists.intro _ (Exists.intro _ (And.intro (zr_X9_scenesOf F I J (d+2) 1) ?_))
        repeat' first | refine And.intro rfl ?_ | refine And.intro (Or.inl rfl) ?_ | refine And.intro (Or.inr rfl) ?_ | refine And.intro (Nat.le_of_ble_eq_true rfl) ?_ | refine And.intro (And.intro rfl rfl) ?_ | exact rfl
        refine Exists.intro _ (Exists.intro _ (And.intro (zr_J6_bitCount F I J (d+2) (r1.1 &&& (zv_X9_scenesOf I 1))) ?_))
        repeat' first | refine And.intro rfl ?_ | refine And.intro (Or.inl rfl) ?_ | refine And.intro (Or.inr rfl) ?_ | refine And.intro (Nat.le_of_ble_eq_true rfl) ?_ | refine And.intro (And.intro rfl rfl) ?_ | exact rfl
        refine Exists.intro _ (Exists.intro _ (And.intro (zr_X11_tell_ F I J d ((zv_J6_bitCount (r1.1 &&& (zv_X9_scenesOf I 0))).toInt64) ((zv_J6_bitCount (r1.1 &&& (zv_X9_scenesOf I 1))).toInt64)) ?_))
        repeat' first | refine And.intro rfl ?_ | refine And.intro (Or.inl rfl) ?_ | refine And.intro (Or.inr rfl) ?_ | refine And.intro (Nat.le_of_ble_eq_true rfl) ?_ | refine And.intro (And.intro rfl rfl) ?_ | exact rfl
        cases hr
        repeat' first | refine And.intro rfl ?_ | refine And.intro (Or.inl rfl) ?_ | refine And.intro (Or.inr rfl) ?_ | refine And.intro (Nat.le_of_ble_eq_true rfl) ?_ | refine And.intro (And.intro rfl rfl) ?_ | exact rfl
      · rw [if_neg h1] at hr
        repeat' first | refine And.intro rfl ?_ | refine And.intro (Or.inl rfl) ?_ | refine And.intro (Or.inr rfl) ?_ | refine And.intro (Nat.le_of_ble_eq_true rfl) ?_ | refine And.intro (And.intro rfl rfl) ?_ | exact rfl
        cases hr
        repeat' first | refine And.intro rfl ?_ | refine And.intro (Or.inl rfl) ?_ | refine And.intro (Or.inr rfl) ?_ | refine And.intro (Nat.le_of_ble_eq_true rfl) ?_ | refine And.intro (And.intro rfl rfl) ?_ | exact rfl
theorem zr_X11_who (F : zz_F) (I : Nat → Nat → Int32) (J : Nat → Nat → Int64) (d N : Nat) (l1 : Int32) (r : Int32 × (Nat → Nat → Int32) × (Nat → Nat → Int64)) (h : zf_X11_who N l1 I J = some r) : zz_run (d+3) 160 0 [some (.ref 2), some (.int (l1)), none] [] (zz_S F I J) (some (.int (r.1))) (zz_S F (r.2.1) (r.2.2)) := (zq_X11_who F d N N) l1 0 I J r h
def zb_X11_kings_0 (N : Nat) (rec : Nat → Int32 → Int32 → (Nat → Nat → Int32) → (Nat → Nat → Int64) → Option (Int32 × (Nat → Nat → Int32) × (Nat → Nat → Int64))) (l1 : Int32) (l2 : Int32) (I : Nat → Nat → Int32) (J : Nat → Nat → Int64) : Option (Int32 × (Nat → Nat → Int32) × (Nat → Nat → Int64)) := (zf_X9_unionOf N ((I 8 2) &&& (zv_X9_scenesOf I 0)) 2 I J).bind fun r1 => (zf_X9_unionOf N ((I 8 2) &&& (zv_X9_scenesOf I 1)) 2 I J).bind fun r2 => (zf_X2_scenesWith N (r1.1 &&& r2.1) I J).bind fun r3 => (zf_X9_sumOf N ((I 8 2) &&& r3.1) 1 I J).bind fun r4 => some (r1.1 &&& r2.1, zw_X11_tell_ I J ((zv_J6_bitCount (r1.1 &&& r2.1)).toInt64) r4.1.toInt64, zx_X11_tell_ I J ((zv_J6_bitCount (r1.1 &&& r2.1)).toInt64) r4.1.toInt64)
def zl_X11_kings (N : Nat) : Nat → Nat → Int32 → Int32 → (Nat → Nat → Int32) → (Nat → Nat → Int64) → Option (Int32 × (Nat → Nat → Int32) × (Nat → Nat → Int64))
  | 0 => fun _ _ _ _ _ => none
  | n + 1 => fun pc l1 l2 I J => if pc = 0 then zb_X11_kings_0 N (zl_X11_kings N n) l1 l2 I J else none
def zf_X11_kings (N : Nat)  (I : Nat → Nat → Int32) (J : Nat → Nat → Int64) : Option (Int32 × (Nat → Nat → Int32) × (Nat → Nat → Int64)) := zl_X11_kings N N 0 0 0 I J
theorem zq_X11_kings (F : zz_F) (d N : Nat) : ∀ n : Nat, (∀ (l1 : Int32) (l2 : Int32) (I : Nat → Nat → Int32) (J : Nat → Nat → Int64) (r : Int32 × (Nat → Nat → Int32) × (Nat → Nat → Int64)), zl_X11_kings N n 0 l1 l2 I J = some r → zz_run (d+3) 161 0 [some (.ref 2), none, none] [] (zz_S F I J) (some (.int (r.1))) (zz_S F (r.2.1) (r.2.2))) := by
  intro n
  induction n with
  | zero => exact fun _ _ _ _ _ h => zz_no h
  | succ n ih =>
    have ih0 := ih
    skip
    · intro l1 l2 I J r hr
      replace hr : zb_X11_kings_0 N (zl_X11_kings N n) l1 l2 I J = some r := hr
      unfold zb_X11_kings_0 at hr
      refine zs_161_0 ?_
      repeat' first | refine And.intro rfl ?_ | refine And.intro (Or.inl rfl) ?_ | refine And.intro (Or.inr rfl) ?_ | refine And.intro (Nat.le_of_ble_eq_true rfl) ?_ | refine And.intro (And.intro rfl rfl) ?_ | exact rfl
      refine Exists.intro _ (Exists.intro _ (And.intro (zr_X9_scenesOf F I J (d+2) 0) ?_))
      repeat' first | refine And.intro rfl ?_ | refine And.intro (Or.inl rfl) ?_ | refine And.intro (Or.inr rfl) ?_ | refine And.intro (Nat.le_of_ble_eq_true rfl) ?_ | refine And.intro (And.intro rfl rfl) ?_ | exact rfl
      obtain ⟨r1, cr1, hr⟩ := Option.bind_eq_some_iff.mp hr
      refine Exists.intro _ (Exists.intro _ (And.intro (zr_X9_unionOf F I J (d+1) N ((I 8 2) &&& (zv_X9_scenesOf I 0)) 2 r1 cr1) ?_))
      repeat' first | refine And.intro rfl ?_ | refine And.intro (Or.inl rfl) ?_ | refine And.intro (Or.inr rfl) ?_ | refine And.intro (Nat.le_of_ble_eq_true rfl) ?_ | refine And.intro (And.intro rfl rfl) ?_ | exact rfl
      refine Exists.intro _ (Exists.intro _ (And.intro (zr_X9_scenesOf F I J (d+2) 1) ?_))
      repeat' first | refine And.intro rfl ?_ | refine And.intro (Or.inl rfl) ?_ | refine And.intro (Or.inr rfl) ?_ | refine And.intro (Nat.le_of_ble_eq_true rfl) ?_ | refine And.intro (And.intro rfl rfl) ?_ | exact rfl
      obtain ⟨r2, cr2, hr⟩ := Option.bind_eq_some_iff.mp hr
      refine Exists.intro _ (Exists.intro _ (And.intro (zr_X9_unionOf F I J (d+1) N ((I 8 2) &&& (zv_X9_scenesOf I 1)) 2 r2 cr2) ?_))
      repeat' first | refine And.intro rfl ?_ | refine And.intro (Or.inl rfl) ?_ | refine And.intro (Or.inr rfl) ?_ | refine And.intro (Nat.le_of_ble_eq_true rfl) ?_ | refine And.intro (And.intro rfl rfl) ?_ | exact rfl
      obtain ⟨r3, cr3, hr⟩ := Option.bind_eq_some_iff.mp hr
      refine Exists.intro _ (Exists.intro _ (And.intro (zr_X2_scenesWith F I J (d+1) N (r1.1 &&& r2.1) r3 cr3) ?_))
      repeat' first | refine And.intro rfl ?_ | refine And.intro (Or.inl rfl) ?_ | refine And.intro (Or.inr rfl) ?_ | refine And.intro (Nat.le_of_ble_eq_true rfl) ?_ | refine And.intro (And.intro rfl rfl) ?_ | exact rfl
      refine Exists.intro _ (Exists.intro _ (And.intro (zr_J6_bitCount F I J (d+2) (r1.1 &&& r2.1)) ?_))
      repeat' first | refine And.intro rfl ?_ | refine And.intro (Or.inl rfl) ?_ | refine And.intro (Or.inr rfl) ?_ | refine And.intro (Nat.le_of_ble_eq_true rfl) ?_ | refine And.intro (And.intro rfl rfl) ?_ | exact rfl
      obtain ⟨r4, cr4, hr⟩ := Option.bind_eq_some_iff.mp hr
      refine Exists.intro _ (Exists.intro _ (And.intro (zr_X9_sumOf F I J (d+1) N ((I 8 2) &&& r3.1) 1 r4 cr4) ?_))
      repeat' first | refine And.intro rfl ?_ | refine And.intro (Or.inl rfl) ?_ | refine And.intro (Or.inr rfl) ?_ | refine And.intro (Nat.le_of_ble_eq_true rfl) ?_ | refine And.intro (And.intro rfl rfl) ?_ | exact rfl
      refine Exists.intro _ (Exists.intro _ (And.intro (zr_X11_tell_ F I J d ((zv_J6_bitCount (r1.1 &&& r2.1)).toInt64) r4.1.toInt64) ?_))
      repeat' first | refine And.intro rfl ?_ | refine And.intro (Or.inl rfl) ?_ | refine And.intro (Or.inr rfl) ?_ | refine And.intro (Nat.le_of_ble_eq_true rfl) ?_ | refine And.intro (And.intro rfl rfl) ?_ | exact rfl
      cases hr
      repeat' first | refine And.intro rfl ?_ | refine And.intro (Or.inl rfl) ?_ | refine And.intro (Or.inr rfl) ?_ | refine And.intro (Nat.le_of_ble_eq_true rfl) ?_ | refine And.intro (And.intro rfl rfl) ?_ | exact rfl
theorem zr_X11_kings (F : zz_F) (I : Nat → Nat → Int32) (J : Nat → Nat → Int64) (d N : Nat)  (r : Int32 × (Nat → Nat → Int32) × (Nat → Nat → Int64)) (h : zf_X11_kings N  I J = some r) : zz_run (d+3) 161 0 [some (.ref 2), none, none] [] (zz_S F I J) (some (.int (r.1))) (zz_S F (r.2.1) (r.2.2)) := (zq_X11_kings F d N N) 0 0 I J r h
def zb_X11_stand_0 (N : Nat) (rec : Nat → (Nat → Nat → Int32) → (Nat → Nat → Int64) → Option (Int32 × (Nat → Nat → Int32) × (Nat → Nat → Int64)))  (I : Nat → Nat → Int32) (J : Nat → Nat → Int64) : Option (Int32 × (Nat → Nat → Int32) × (Nat → Nat → Int64)) := (zf_X9_unionOf N (I 8 2) 3 I J).bind fun r1 => (zf_X2_propsInAll N ((zw_X11_tell I J ((15 &&& (r1.1 ^^^ ((-1)))).toInt64)) 8 2) (zw_X11_tell I J ((15 &&& (r1.1 ^^^ ((-1)))).toInt64)) (zx_X11_tell I J ((15 &&& (r1.1 ^^^ ((-1)))).toInt64))).bind fun r2 => some (r2.1, zw_X11_tell I J ((15 &&& (r1.1 ^^^ ((-1)))).toInt64), zx_X11_tell I J ((15 &&& (r1.1 ^^^ ((-1)))).toInt64))
def zl_X11_stand (N : Nat) : Nat → Nat → (Nat → Nat → Int32) → (Nat → Nat → Int64) → Option (Int32 × (Nat → Nat → Int32) × (Nat → Nat → Int64))
  | 0 => fun _ _ _ => none
  | n + 1 => fun pc  I J => if pc = 0 then zb_X11_stand_0 N (zl_X11_stand N n)  I J else none
def zf_X11_stand (N : Nat)  (I : Nat → Nat → Int32) (J : Nat → Nat → Int64) : Option (Int32 × (Nat → Nat → Int32) × (Nat → Nat → Int64)) := zl_X11_stand N N 0  I J
theorem zq_X11_stand (F : zz_F) (d N : Nat) : ∀ n : Nat, (∀  (I : Nat → Nat → Int32) (J : Nat → Nat → Int64) (r : Int32 × (Nat → Nat → Int32) × (Nat → Nat → Int64)), zl_X11_stand N n 0  I J = some r → zz_run (d+2) 162 0 [some (.ref 2)] [] (zz_S F I J) (some (.int (r.1))) (zz_S F (r.2.1) (r.2.2))) := by
  intro n
  induction n with
  | zero => exact fun _ _ _ h => zz_no h
  | succ n ih =>
    have ih0 := ih
    skip
    · intro  I J r hr
      replace hr : zb_X11_stand_0 N (zl_X11_stand N n)  I J = some r := hr
      unfold zb_X11_stand_0 at hr
      refine zs_162_0 ?_
      repeat' first | refine And.intro rfl ?_ | refine And.intro (Or.inl rfl) ?_ | refine And.intro (Or.inr rfl) ?_ | refine And.intro (Nat.le_of_ble_eq_true rfl) ?_ | refine And.intro (And.intro rfl rfl) ?_ | exact rfl
      obtain ⟨r1, cr1, hr⟩ := Option.bind_eq_some_iff.mp hr
      refine Exists.intro _ (Exists.intro _ (And.intro (zr_X9_unionOf F I J d N (I 8 2) 3 r1 cr1) ?_))
      repeat' first | refine And.intro rfl ?_ | refine And.intro (Or.inl rfl) ?_ | refine And.intro (Or.inr rfl) ?_ | refine And.intro (Nat.le_of_ble_eq_true rfl) ?_ | refine And.intro (And.intro rfl rfl) ?_ | exact rfl
      refine Exists.intro _ (Exists.intro _ (And.intro (zr_X11_tell F I J d ((15 &&& (r1.1 ^^^ ((-1)))).toInt64)) ?_))
      repeat' first | refine And.intro rfl ?_ | refine And.intro (Or.inl rfl) ?_ | refine And.intro (Or.inr rfl) ?_ | refine And.intro (Nat.le_of_ble_eq_true rfl) ?_ | refine And.intro (And.intro rfl rfl) ?_ | exact rfl
      obtain ⟨r2, cr2, hr⟩ := Option.bind_eq_some_iff.mp hr
      refine Exists.intro _ (Exists.intro _ (And.intro (zr_X2_propsInAll F (zw_X11_tell I J ((15 &&& (r1.1 ^^^ ((-1)))).toInt64)) (zx_X11_tell I J ((15 &&& (r1.1 ^^^ ((-1)))).toInt64)) d N ((zw_X11_tell I J ((15 &&& (r1.1 ^^^ ((-1)))).toInt64)) 8 2) r2 cr2) ?_))
      repeat' first | refine And.intro rfl ?_ | refine And.intro (Or.inl rfl) ?_ | refine And.intro (Or.inr rfl) ?_ | refine And.intro (Nat.le_of_ble_eq_true rfl) ?_ | refine And.intro (And.intro rfl rfl) ?_ | exact rfl
      cases hr
      repeat' first | refine And.intro rfl ?_ | refine And.intro (Or.inl rfl) ?_ | refine And.intro (Or.inr rfl) ?_ | refine And.intro (Nat.le_of_ble_eq_true rfl) ?_ | refine And.intro (And.intro rfl rfl) ?_ | exact rfl
theorem zr_X11_stand (F : zz_F) (I : Nat → Nat → Int32) (J : Nat → Nat → Int64) (d N : Nat)  (r : Int32 × (Nat → Nat → Int32) × (Nat → Nat → Int64)) (h : zf_X11_stand N  I J = some r) : zz_run (d+2) 162 0 [some (.ref 2)] [] (zz_S F I J) (some (.int (r.1))) (zz_S F (r.2.1) (r.2.2)) := (zq_X11_stand F d N N)  I J r h
def zb_X11_guard_0 (N : Nat) (rec : Nat → Int32 → (Nat → Nat → Int32) → (Nat → Nat → Int64) → Option (Int32 × (Nat → Nat → Int32) × (Nat → Nat → Int64))) (l1 : Int32) (I : Nat → Nat → Int32) (J : Nat → Nat → Int64) : Option (Int32 × (Nat → Nat → Int32) × (Nat → Nat → Int64)) := (zf_X2_fewestAsked N (I 8 2) I J).bind fun r1 => some (zv_J6_bitCount r1.1, zw_X11_tell I J r1.1.toInt64, zx_X11_tell I J r1.1.toInt64)
def zl_X11_guard (N : Nat) : Nat → Nat → Int32 → (Nat → Nat → Int32) → (Nat → Nat → Int64) → Option (Int32 × (Nat → Nat → Int32) × (Nat → Nat → Int64))
  | 0 => fun _ _ _ _ => none
  | n + 1 => fun pc l1 I J => if pc = 0 then zb_X11_guard_0 N (zl_X11_guard N n) l1 I J else none
def zf_X11_guard (N : Nat)  (I : Nat → Nat → Int32) (J : Nat → Nat → Int64) : Option (Int32 × (Nat → Nat → Int32) × (Nat → Nat → Int64)) := zl_X11_guard N N 0 0 I J
theorem zq_X11_guard (F : zz_F) (d N : Nat) : ∀ n : Nat, (∀ (l1 : Int32) (I : Nat → Nat → Int32) (J : Nat → Nat → Int64) (r : Int32 × (Nat → Nat → Int32) × (Nat → Nat → Int64)), zl_X11_guard N n 0 l1 I J = some r → zz_run (d+3) 163 0 [some (.ref 2), none] [] (zz_S F I J) (some (.int (r.1))) (zz_S F (r.2.1) (r.2.2))) := by
  intro n
  induction n with
  | zero => exact fun _ _ _ _ h => zz_no h
  | succ n ih =>
    have ih0 := ih
    skip
    · intro l1 I J r hr
      replace hr : zb_X11_guard_0 N (zl_X11_guard N n) l1 I J = some r := hr
      unfold zb_X11_guard_0 at hr
      refine zs_163_0 ?_
      repeat' first | refine And.intro rfl ?_ | refine And.intro (Or.inl rfl) ?_ | refine And.intro (Or.inr rfl) ?_ | refine And.intro (Nat.le_of_ble_eq_true rfl) ?_ | refine And.intro (And.intro rfl rfl) ?_ | exact rfl
      obtain ⟨r1, cr1, hr⟩ := Option.bind_eq_some_iff.mp hr
      refine Exists.intro _ (Exists.intro _ (And.intro (zr_X2_fewestAsked F I J d N (I 8 2) r1 cr1) ?_))
      repeat' first | refine And.intro rfl ?_ | refine And.intro (Or.inl rfl) ?_ | refine And.intro (Or.inr rfl) ?_ | refine And.intro (Nat.le_of_ble_eq_true rfl) ?_ | refine And.intro (And.intro rfl rfl) ?_ | exact rfl
      refine Exists.intro _ (Exists.intro _ (And.intro (zr_X11_tell F I J (d+1) r1.1.toInt64) ?_))
      repeat' first | refine And.intro rfl ?_ | refine And.intro (Or.inl rfl) ?_ | refine And.intro (Or.inr rfl) ?_ | refine And.intro (Nat.le_of_ble_eq_true rfl) ?_ | refine And.intro (And.intro rfl rfl) ?_ | exact rfl
      refine Exists.intro _ (Exists.intro _ (And.intro (zr_J6_bitCount F (zw_X11_tell I J r1.1.toInt64) (zx_X11_tell I J r1.1.toInt64) (d+2) r1.1) ?_))
      repeat' first | refine And.intro rfl ?_ | refine And.intro (Or.inl rfl) ?_ | refine And.intro (Or.inr rfl) ?_ | refine And.intro (Nat.le_of_ble_eq_true rfl) ?_ | refine And.intro (And.intro rfl rfl) ?_ | exact rfl
      cases hr
      repeat' first | refine And.intro rfl ?_ | refine And.intro (Or.inl rfl) ?_ | refine And.intro (Or.inr rfl) ?_ | refine And.intro (Nat.le_of_ble_eq_true rfl) ?_ | refine And.intro (And.intro rfl rfl) ?_ | exact rfl
theorem zr_X11_guard (F : zz_F) (I : Nat → Nat → Int32) (J : Nat → Nat → Int64) (d N : Nat)  (r : Int32 × (Nat → Nat → Int32) × (Nat → Nat → Int64)) (h : zf_X11_guard N  I J = some r) : zz_run (d+3) 163 0 [some (.ref 2), none] [] (zz_S F I J) (some (.int (r.1))) (zz_S F (r.2.1) (r.2.2)) := (zq_X11_guard F d N N) 0 I J r h
def zb_X11_fits_0 (N : Nat) (rec : Nat → Int32 → (Nat → Nat → Int32) → (Nat → Nat → Int64) → Option (Int32 × (Nat → Nat → Int32) × (Nat → Nat → Int64))) (l1 : Int32) (I : Nat → Nat → Int32) (J : Nat → Nat → Int64) : Option (Int32 × (Nat → Nat → Int32) × (Nat → Nat → Int64)) := (zf_X2_fitting N (I 2 15) (I 2 16) I J).bind fun r1 => some (r1.1, zw_X11_tell_ I J ((zv_J6_bitCount r1.1).toInt64) ((zv_J6_bitCount (r1.1 &&& (zv_X9_scenesOf I 0))).toInt64), zx_X11_tell_ I J ((zv_J6_bitCount r1.1).toInt64) ((zv_J6_bitCount (r1.1 &&& (zv_X9_scenesOf I 0))).toInt64))
def zl_X11_fits (N : Nat) : Nat → Nat → Int32 → (Nat → Nat → Int32) → (Nat → Nat → Int64) → Option (Int32 × (Nat → Nat → Int32) × (Nat → Nat → Int64))
  | 0 => fun _ _ _ _ => none
  | n + 1 => fun pc l1 I J => if pc = 0 then zb_X11_fits_0 N (zl_X11_fits N n) l1 I J else none
def zf_X11_fits (N : Nat)  (I : Nat → Nat → Int32) (J : Nat → Nat → Int64) : Option (Int32 × (Nat → Nat → Int32) × (Nat → Nat → Int64)) := zl_X11_fits N N 0 0 I J
theorem zq_X11_fits (F : zz_F) (d N : Nat) : ∀ n : Nat, (∀ (l1 : Int32) (I : Nat → Nat → Int32) (J : Nat → Nat → Int64) (r : Int32 × (Nat → Nat → Int32) × (Nat → Nat → Int64)), zl_X11_fits N n 0 l1 I J = some r → zz_run (d+3) 170 0 [some (.ref 2), none] [] (zz_S F I J) (some (.int (r.1))) (zz_S F (r.2.1) (r.2.2))) := by
  intro n
  induction n with
  | zero => exact fun _ _ _ _ h => zz_no h
  | succ n ih =>
    have ih0 := ih
    skip
    · intro l1 I J r hr
      replace hr : zb_X11_fits_0 N (zl_X11_fits N n) l1 I J = some r := hr
      unfold zb_X11_fits_0 at hr
      refine zs_170_0 ?_
      repeat' first | refine And.intro rfl ?_ | refine And.intro (Or.inl rfl) ?_ | refine And.intro (Or.inr rfl) ?_ | refine And.intro (Nat.le_of_ble_eq_true rfl) ?_ | refine And.intro (And.intro rfl rfl) ?_ | exact rfl
      obtain ⟨r1, cr1, hr⟩ := Option.bind_eq_some_iff.mp hr
      refine Exists.intro _ (Exists.intro _ (And.intro (zr_X2_fitting F I J (d+1) N (I 2 15) (I 2 16) r1 cr1) ?_))
      repeat' first | refine And.intro rfl ?_ | refine And.intro (Or.inl rfl) ?_ | refine And.intro (Or.inr rfl) ?_ | refine And.intro (Nat.le_of_ble_eq_true rfl) ?_ | refine And.intro (And.intro rfl rfl) ?_ | exact rfl
      refine Exists.intro _ (Exists.intro _ (And.intro (zr_J6_bitCount F I J (d+2) r1.1) ?_))
      repeat' first | refine And.intro rfl ?_ | refine And.intro (Or.inl rfl) ?_ | refine And.intro (Or.inr rfl) ?_ | refine And.intro (Nat.le_of_ble_eq_true rfl) ?_ | refine And.intro (And.intro rfl rfl) ?_ | exact rfl
      refine Exists.intro _ (Exists.intro _ (And.intro (zr_X9_scenesOf F I J (d+2) 0) ?_))
      repeat' first | refine And.intro rfl ?_ | refine And.intro (Or.inl rfl) ?_ | refine And.intro (Or.inr rfl) ?_ | refine And.intro (Nat.le_of_ble_eq_true rfl) ?_ | refine And.intro (And.intro rfl rfl) ?_ | exact rfl
      refine Exists.intro _ (Exists.intro _ (And.intro (zr_J6_bitCount F I J (d+2) (r1.1 &&& (zv_X9_scenesOf I 0))) ?_))
      repeat' first | refine And.intro rfl ?_ | refine And.intro (Or.inl rfl) ?_ | refine And.intro (Or.inr rfl) ?_ | refine And.intro (Nat.le_of_ble_eq_true rfl) ?_ | refine And.intro (And.intro rfl rfl) ?_ | exact rfl
      refine Exists.intro _ (Exists.intro _ (And.intro (zr_X11_tell_ F I J d ((zv_J6_bitCount r1.1).toInt64) ((zv_J6_bitCount (r1.1 &&& (zv_X9_scenesOf I 0))).toInt64)) ?_))
      repeat' first | refine And.intro rfl ?_ | refine And.intro (Or.inl rfl) ?_ | refine And.intro (Or.inr rfl) ?_ | refine And.intro (Nat.le_of_ble_eq_true rfl) ?_ | refine And.intro (And.intro rfl rfl) ?_ | exact rfl
      cases hr
      repeat' first | refine And.intro rfl ?_ | refine And.intro (Or.inl rfl) ?_ | refine And.intro (Or.inr rfl) ?_ | refine And.intro (Nat.le_of_ble_eq_true rfl) ?_ | refine And.intro (And.intro rfl rfl) ?_ | exact rfl
theorem zr_X11_fits (F : zz_F) (I : Nat → Nat → Int32) (J : Nat → Nat → Int64) (d N : Nat)  (r : Int32 × (Nat → Nat → Int32) × (Nat → Nat → Int64)) (h : zf_X11_fits N  I J = some r) : zz_run (d+3) 170 0 [some (.ref 2), none] [] (zz_S F I J) (some (.int (r.1))) (zz_S F (r.2.1) (r.2.2)) := (zq_X11_fits F d N N) 0 I J r h
def zb_X11_ask_0 (N : Nat) (rec : Nat → Int32 → Int32 → Int32 → Int32 → Int32 → (Nat → Nat → Int32) → (Nat → Nat → Int64) → Option (Int32 × (Nat → Nat → Int32) × (Nat → Nat → Int64))) (l1 : Int32) (l2 : Int32) (l3 : Int32) (l4 : Int32) (l5 : Int32) (I : Nat → Nat → Int32) (J : Nat → Nat → Int64) : Option (Int32 × (Nat → Nat → Int32) × (Nat → Nat → Int64)) := (zf_X2_fitting N (I 2 15) (I 2 16) I J).bind fun r1 => if ¬ r1.1 = 0 then ((zf_X2_mostLeft N r1.1 0 I J).bind fun r2 => rec 38 r1.1 0 r2.1 1 0 I J) else (some ((-2), I, J))
def zb_X11_ask_38 (N : Nat) (rec : Nat → Int32 → Int32 → Int32 → Int32 → Int32 → (Nat → Nat → Int32) → (Nat → Nat → Int64) → Option (Int32 × (Nat → Nat → Int32) × (Nat → Nat → Int64))) (l1 : Int32) (l2 : Int32) (l3 : Int32) (l4 : Int32) (l5 : Int32) (I : Nat → Nat → Int32) (J : Nat → Nat → Int64) : Option (Int32 × (Nat → Nat → Int32) × (Nat → Nat → Int64)) := if 6 ≤ l4 then (some (l2, zw_X11_tell I J l3.toInt64, zx_X11_tell I J l3.toInt64)) else ((zf_X2_mostLeft N l1 l4 I J).bind fun r3 => if l3 ≤ r3.1 then (rec 38 l1 l2 l3 (l4 + 1) 0 I J) else (rec 38 l1 l4 r3.1 (l4 + 1) 0 I J))
def zl_X11_ask (N : Nat) : Nat → Nat → Int32 → Int32 → Int32 → Int32 → Int32 → (Nat → Nat → Int32) → (Nat → Nat → Int64) → Option (Int32 × (Nat → Nat → Int32) × (Nat → Nat → Int64))
  | 0 => fun _ _ _ _ _ _ _ _ => none
  | n + 1 => fun pc l1 l2 l3 l4 l5 I J => if pc = 0 then zb_X11_ask_0 N (zl_X11_ask N n) l1 l2 l3 l4 l5 I J else (if pc = 38 then zb_X11_ask_38 N (zl_X11_ask N n) l1 l2 l3 l4 l5 I J else none)
def zf_X11_ask (N : Nat)  (I : Nat → Nat → Int32) (J : Nat → Nat → Int64) : Option (Int32 × (Nat → Nat → Int32) × (Nat → Nat → Int64)) := zl_X11_ask N N 0 0 0 0 0 0 I J
theorem zq_X11_ask (F : zz_F) (d N : Nat) : ∀ n : Nat, (∀ (l1 : Int32) (l2 : Int32) (l3 : Int32) (l4 : Int32) (l5 : Int32) (I : Nat → Nat → Int32) (J : Nat → Nat → Int64) (r : Int32 × (Nat → Nat → Int32) × (Nat → Nat → Int64)), zl_X11_ask N n 0 l1 l2 l3 l4 l5 I J = some r → zz_run (d+3) 171 0 [some (.ref 2), none, none, none, none, none] [] (zz_S F I J) (some (.int (r.1))) (zz_S F (r.2.1) (r.2.2))) ∧ (∀ (l1 : Int32) (l2 : Int32) (l3 : Int32) (l4 : Int32) (l5 : Int32) (I : Nat → Nat → Int32) (J : Nat → Nat → Int64) (r : Int32 × (Nat → Nat → Int32) × (Nat → Nat → Int64)), zl_X11_ask N n 38 l1 l2 l3 l4 l5 I J = some r → zz_run (d+3) 171 38 [some (.ref 2), some (.int (l1)), some (.int (l2)), some (.int (l3)), some (.int (l4)), none] [] (zz_S F I J) (some (.int (r.1))) (zz_S F (r.2.1) (r.2.2))) := by
  intro n
  induction n with
  | zero => exact ⟨fun _ _ _ _ _ _ _ _ h => zz_no h, fun _ _ _ _ _ _ _ _ h => zz_no h⟩
  | succ n ih =>
    obtain ⟨ih0, ih38⟩ := ih
    refine ⟨?_, ?_⟩
    · intro l1 l2 l3 l4 l5 I J r hr
      replace hr : zb_X11_ask_0 N (zl_X11_ask N n) l1 l2 l3 l4 l5 I J = some r := hr
      unfold zb_X11_ask_0 at hr
      refine zs_171_0 ?_
      repeat' first | refine And.intro rfl ?_ | refine And.intro (Or.inl rfl) ?_ | refine And.intro (Or.inr rfl) ?_ | refine And.intro (Nat.le_of_ble_eq_true rfl) ?_ | refine And.intro (And.intro rfl rfl) ?_ | exact rfl
      obtain ⟨r1, cr1, hr⟩ := Option.bind_eq_some_iff.mp hr
      refine Exists.intro _ (Exists.intro _ (And.intro (zr_X2_fitting F I J (d+1) N (I 2 15) (I 2 16) r1 cr1) ?_))
      repeat' first | refine And.intro rfl ?_ | refine And.intro (Or.inl rfl) ?_ | refine And.intro (Or.inr rfl) ?_ | refine And.intro (Nat.le_of_ble_eq_true rfl) ?_ | refine And.intro (And.intro rfl rfl) ?_ | exact rfl
      refine And.intro (fun (h1 : ¬ r1.1 = 0) => ?_) (fun (h1 : ¬ (¬ r1.1 = 0)) => ?_)
      · rw [if_pos h1] at hr
        refine zs_171_23 ?_
        repeat' first | refine And.intro rfl ?_ | refine And.intro (Or.inl rfl) ?_ | refine And.intro (Or.inr rfl) ?_ | refine And.intro (Nat.le_of_ble_eq_true rfl) ?_ | refine And.intro (And.intro rfl rfl) ?_ | exact rfl
        obtain ⟨r2, cr2, hr⟩ := Option.bind_eq_some_iff.mp hr
        refine Exists.intro _ (Exists.intro _ (And.intro (zr_X2_mostLeft F I J d N r1.1 0 r2 cr2) ?_))
        repeat' first | refine And.intro rfl ?_ | refine And.intro (Or.inl rfl) ?_ | refine And.intro (Or.inr rfl) ?_ | refine And.intro (Nat.le_of_ble_eq_true rfl) ?_ | refine And.intro (And.intro rfl rfl) ?_ | exact rfl
        exact zz_wk [true, true, true, true, true, false] rfl (ih38 _ _ _ _ _ _ _ _ hr)
      · rw [if_neg h1] at hr
        repeat' first | refine And.intro rfl ?_ | refine And.intro (Or.inl rfl) ?_ | refine And.intro (Or.inr rfl) ?_ | refine And.intro (Nat.le_of_ble_eq_true rfl) ?_ | refine And.intro (And.intro rfl rfl) ?_ | exact rfl
        cases hr
        repeat' first | refine And.intro rfl ?_ | refine And.intro (Or.inl rfl) ?_ | refine And.intro (Or.inr rfl) ?_ | refine And.intro (Nat.le_of_ble_eq_true rfl) ?_ | refine And.intro (And.intro rfl rfl) ?_ | exact rfl
    · intro l1 l2 l3 l4 l5 I J r hr
      replace hr : zb_X11_ask_38 N (zl_X11_ask N n) l1 l2 l3 l4 l5 I J = some r := hr
      unfold zb_X11_ask_38 at hr
      refine zs_171_38 ?_
      repeat' first | refine And.intro rfl ?_ | refine And.intro (Or.inl rfl) ?_ | refine And.intro (Or.inr rfl) ?_ | refine And.intro (Nat.le_of_ble_eq_true rfl) ?_ | refine And.intro (And.intro rfl rfl) ?_ | exact rfl
      refine And.intro (fun (h2 : 6 ≤ l4) => ?_) (fun (h2 : ¬ (6 ≤ l4)) => ?_)
      · rw [if_pos h2] at hr
        refine zs_171_75 ?_
        repeat' first | refine And.intro rfl ?_ | refine And.intro (Or.inl rfl) ?_ | refine And.intro (Or.inr rfl) ?_ | refine And.intro (Nat.le_of_ble_eq_true rfl) ?_ | refine And.intro (And.intro rfl rfl) ?_ | exact rfl
        refine Exists.intro _ (Exists.intro _ (And.intro (zr_X11_tell F I J (d+1) l3.toInt64) ?_))
        repeat' first | refine And.intro rfl ?_ | refine And.intro (Or.inl rfl) ?_ | refine And.intro (Or.inr rfl) ?_ | refine And.intro (Nat.le_of_ble_eq_true rfl) ?_ | refine And.intro (And.intro rfl rfl) ?_ | exact rfl
        cases hr
        repeat' first | refine And.intro rfl ?_ | refine And.intro (Or.inl rfl) ?_ | refine And.intro (Or.inr rfl) ?_ | refine And.intro (Nat.le_of_ble_eq_true rfl) ?_ | refine And.intro (And.intro rfl rfl) ?_ | exact rfl
      · rw [if_neg h2] at hr
        repeat' first | refine And.intro rfl ?_ | refine And.intro (Or.inl rfl) ?_ | refine And.intro (Or.inr rfl) ?_ | refine And.intro (Nat.le_of_ble_eq_true rfl) ?_ | refine And.intro (And.intro rfl rfl) ?_ | exact rfl
        obtain ⟨r3, cr3, hr⟩ := Option.bind_eq_some_iff.mp hr
        refine Exists.intro _ (Exists.intro _ (And.intro (zr_X2_mostLeft F I J d N l1 l4 r3 cr3) ?_))
        repeat' first | refine And.intro rfl ?_ | refine And.intro (Or.inl rfl) ?_ | refine And.intro (Or.inr rfl) ?_ | refine And.intro (Nat.le_of_ble_eq_true rfl) ?_ | refine And.intro (And.intro rfl rfl) ?_ | exact rfl
        refine And.intro (fun (h3 : l3 ≤ r3.1) => ?_) (fun (h3 : ¬ (l3 ≤ r3.1)) => ?_)
        · rw [if_pos h3] at hr
          refine zs_171_69 ?_
          repeat' first | refine And.intro rfl ?_ | refine And.intro (Or.inl rfl) ?_ | refine And.intro (Or.inr rfl) ?_ | refine And.intro (Nat.le_of_ble_eq_true rfl) ?_ | refine And.intro (And.intro rfl rfl) ?_ | exact rfl
          exact zz_wk [true, true, true, true, true, false] rfl (ih38 _ _ _ _ _ _ _ _ hr)
        · rw [if_neg h3] at hr
          repeat' first | refine And.intro rfl ?_ | refine And.intro (Or.inl rfl) ?_ | refine And.intro (Or.inr rfl) ?_ | refine And.intro (Nat.le_of_ble_eq_true rfl) ?_ | refine And.intro (And.intro rfl rfl) ?_ | exact rfl
          refine zs_171_69 ?_
          repeat' first | refine And.intro rfl ?_ | refine And.intro (Or.inl rfl) ?_ | refine And.intro (Or.inr rfl) ?_ | refine And.intro (Nat.le_of_ble_eq_true rfl) ?_ | refine And.intro (And.intro rfl rfl) ?_ | exact rfl
          exact zz_wk [true, true, true, true, true, false] rfl (ih38 _ _ _ _ _ _ _ _ hr)
theorem zr_X11_ask (F : zz_F) (I : Nat → Nat → Int32) (J : Nat → Nat → Int64) (d N : Nat)  (r : Int32 × (Nat → Nat → Int32) × (Nat → Nat → Int64)) (h : zf_X11_ask N  I J = some r) : zz_run (d+3) 171 0 [some (.ref 2), none, none, none, none, none] [] (zz_S F I J) (some (.int (r.1))) (zz_S F (r.2.1) (r.2.2)) := (zq_X11_ask F d N N).1 0 0 0 0 0 I J r h
def zb_X11_count_0 (N : Nat) (rec : Nat → Int32 → (Nat → Nat → Int32) → (Nat → Nat → Int64) → Option (Int32 × (Nat → Nat → Int32) × (Nat → Nat → Int64))) (l1 : Int32) (I : Nat → Nat → Int32) (J : Nat → Nat → Int64) : Option (Int32 × (Nat → Nat → Int32) × (Nat → Nat → Int64)) := if l1 = 0 then (some (I 5 2, I, J)) else (if l1 = 1 then (some (I 8 0, I, J)) else (if l1 = 2 then (some (I 8 1, I, J)) else (if l1 = 3 then (some (I 8 2, I, J)) else (if l1 = 4 then (some (I 8 3, I, J)) else (if l1 = 5 then (some (I 8 4, I, J)) else (if l1 = 6 then (some ((zv_X5_cheersIn I 0) + (zv_X5_cheersIn I 1), I, J)) else (if l1 = 7 then (some (I 2 15, I, J)) else (if l1 = 8 then (some (I 9 5, I, J)) else (if l1 = 9 then (some (I 2 3, I, J)) else (if l1 = 10 then (some (I 2 1, I, J)) else (some ((-100), I, J))))))))))))
def zl_X11_count (N : Nat) : Nat → Nat → Int32 → (Nat → Nat → Int32) → (Nat → Nat → Int64) → Option (Int32 × (Nat → Nat → Int32) × (Nat → Nat → Int64))
  | 0 => fun _ _ _ _ => none
  | n + 1 => fun pc l1 I J => if pc = 0 then zb_X11_count_0 N (zl_X11_count N n) l1 I J else none
def zf_X11_count (N : Nat) (l1 : Int32) (I : Nat → Nat → Int32) (J : Nat → Nat → Int64) : Option (Int32 × (Nat → Nat → Int32) × (Nat → Nat → Int64)) := zl_X11_count N N 0 l1 I J
theorem zq_X11_count (F : zz_F) (d N : Nat) : ∀ n : Nat, (∀ (l1 : Int32) (I : Nat → Nat → Int32) (J : Nat → Nat → Int64) (r : Int32 × (Nat → Nat → Int32) × (Nat → Nat → Int64)), zl_X11_count N n 0 l1 I J = some r → zz_run (d+1) 176 0 [some (.ref 2), some (.int (l1))] [] (zz_S F I J) (some (.int (r.1))) (zz_S F (I) (J))) := by
  intro n
  induction n with
  | zero => exact fun _ _ _ _ h => zz_no h
  | succ n ih =>
    have ih0 := ih
    skip
    · intro l1 I J r hr
      replace hr : zb_X11_count_0 N (zl_X11_count N n) l1 I J = some r := hr
      unfold zb_X11_count_0 at hr
      refine zs_176_0 ?_
      repeat' first | refine And.intro rfl ?_ | refine And.intro (Or.inl rfl) ?_ | refine And.intro (Or.inr rfl) ?_ | refine And.intro (Nat.le_of_ble_eq_true rfl) ?_ | refine And.intro (And.intro rfl rfl) ?_ | exact rfl
      by_cases s1_0 : l1 = 0
      · rw [if_pos s1_0] at hr
        refine And.intro (fun (q : l1.toInt < 0 ∨ 10 < l1.toInt) => absurd q (by rw [s1_0]; decide)) (fun _ => Exists.intro 59 (And.intro (show (#[59, 67, 75, 83, 91, 99, 107, 125, 130, 138, 143] : Array Int)[(l1.toInt - 0).toNat]? = some 59 from by rw [s1_0]; rfl) ?_))
        refine zs_176_60 ?_
        repeat' first | refine And.intro rfl ?_ | refine And.intro (Or.inl rfl) ?_ | refine And.intro (Or.inr rfl) ?_ | refine And.intro (Nat.le_of_ble_eq_true rfl) ?_ | refine And.intro (And.intro rfl rfl) ?_ | exact rfl
        cases hr
        repeat' first | refine And.intro rfl ?_ | refine And.intro (Or.inl rfl) ?_ | refine And.intro (Or.inr rfl) ?_ | refine And.intro (Nat.le_of_ble_eq_true rfl) ?_ | refine And.intro (And.intro rfl rfl) ?_ | exact rfl
      · rw [if_neg s1_0] at hr
        by_cases s1_1 : l1 = 1
        · rw [if_pos s1_1] at hr
          refine And.intro (fun (q : l1.toInt < 0 ∨ 10 < l1.toInt) => absurd q (by rw [s1_1]; decide)) (fun _ => Exists.intro 67 (And.intro (show (#[59, 67, 75, 83, 91, 99, 107, 125, 130, 138, 143] : Array Int)[(l1.toInt - 0).toNat]? = some 67 from by rw [s1_1]; rfl) ?_))
          refine zs_176_68 ?_
          repeat' first | refine And.intro rfl ?_ | refine And.intro (Or.inl rfl) ?_ | refine And.intro (Or.inr rfl) ?_ | refine And.intro (Nat.le_of_ble_eq_true rfl) ?_ | refine And.intro (And.intro rfl rfl) ?_ | exact rfl
          cases hr
          repeat' first | refine And.intro rfl ?_ | refine And.intro (Or.inl rfl) ?_ | refine And.intro (Or.inr rfl) ?_ | refine And.intro (Nat.le_of_ble_eq_true rfl) ?_ | refine And.intro (And.intro rfl rfl) ?_ | exact rfl
        · rw [if_neg s1_1] at hr
          by_cases s1_2 : l1 = 2
          · rw [if_pos s1_2] at hr
            refine And.intro (fun (q : l1.toInt < 0 ∨ 10 < l1.toInt) => absurd q (by rw [s1_2]; decide)) (fun _ => Exists.intro 75 (And.intro (show (#[59, 67, 75, 83, 91, 99, 107, 125, 130, 138, 143] : Array Int)[(l1.toInt - 0).toNat]? = some 75 from by rw [s1_2]; rfl) ?_))
            refine zs_176_76 ?_
            repeat' first | refine And.intro rfl ?_ | refine And.intro (Or.inl rfl) ?_ | refine And.intro (Or.inr rfl) ?_ | refine And.intro (Nat.le_of_ble_eq_true rfl) ?_ | refine And.intro (And.intro rfl rfl) ?_ | exact rfl
            cases hr
            repeat' first | refine And.intro rfl ?_ | refine And.intro (Or.inl rfl) ?_ | refine And.intro (Or.inr rfl) ?_ | refine And.intro (Nat.le_of_ble_eq_true rfl) ?_ | refine And.intro (And.intro rfl rfl) ?_ | exact rfl
          · rw [if_neg s1_2] at hr
            by_cases s1_3 : l1 = 3
            · rw [if_pos s1_3] at hr
              refine And.intro (fun (q : l1.toInt < 0 ∨ 10 < l1.toInt) => absurd q (by rw [s1_3]; decide)) (fun _ => Exists.intro 83 (And.intro (show (#[59, 67, 75, 83, 91, 99, 107, 125, 130, 138, 143] : Array Int)[(l1.toInt - 0).toNat]? = some 83 from by rw [s1_3]; rfl) ?_))
              refine zs_176_84 ?_
              repeat' first | refine And.intro rfl ?_ | refine And.intro (Or.inl rfl) ?_ | refine And.intro (Or.inr rfl) ?_ | refine And.intro (Nat.le_of_ble_eq_true rfl) ?_ | refine And.intro (And.intro rfl rfl) ?_ | exact rfl
              cases hr
              repeat' first | refine And.intro rfl ?_ | refine And.intro (Or.inl rfl) ?_ | refine And.intro (Or.inr rfl) ?_ | refine And.intro (Nat.le_of_ble_eq_true rfl) ?_ | refine And.intro (And.intro rfl rfl) ?_ | exact rfl
            · rw [if_neg s1_3] at hr
              by_cases s1_4 : l1 = 4
              · rw [if_pos s1_4] at hr
                refine And.intro (fun (q : l1.toInt < 0 ∨ 10 < l1.toInt) => absurd q (by rw [s1_4]; decide)) (fun _ => Exists.intro 91 (And.intro (show (#[59, 67, 75, 83, 91, 99, 107, 125, 130, 138, 143] : Array Int)[(l1.toInt - 0).toNat]? = some 91 from by rw [s1_4]; rfl) ?_))
                refine zs_176_92 ?_
                repeat' first | refine And.intro rfl ?_ | refine And.intro (Or.inl rfl) ?_ | refine And.intro (Or.inr rfl) ?_ | refine And.intro (Nat.le_of_ble_eq_true rfl) ?_ | refine And.intro (And.intro rfl rfl) ?_ | exact rfl
                cases hr
                repeat' first | refine And.intro rfl ?_ | refine And.intro (Or.inl rfl) ?_ | refine And.intro (Or.inr rfl) ?_ | refine And.intro (Nat.le_of_ble_eq_true rfl) ?_ | refine And.intro (And.intro rfl rfl) ?_ | exact rfl
              · rw [if_neg s1_4] at hr
                by_cases s1_5 : l1 = 5
                · rw [if_pos s1_5] at hr
                  refine And.intro (fun (q : l1.toInt < 0 ∨ 10 < l1.toInt) => absurd q (by rw [s1_5]; decide)) (fun _ => Exists.intro 99 (And.intro (show (#[59, 67, 75, 83, 91, 99, 107, 125, 130, 138, 143] : Array Int)[(l1.toInt - 0).toNat]? = some 99 from by rw [s1_5]; rfl) ?_))
                  refine zs_176_100 ?_
                  repeat' first | refine And.intro rfl ?_ | refine And.intro (Or.inl rfl) ?_ | refine And.intro (Or.inr rfl) ?_ | refine And.intro (Nat.le_of_ble_eq_true rfl) ?_ | refine And.intro (And.intro rfl rfl) ?_ | exact rfl
                  cases hr
                  repeat' first | refine And.intro rfl ?_ | refine And.intro (Or.inl rfl) ?_ | refine And.intro (Or.inr rfl) ?_ | refine And.intro (Nat.le_of_ble_eq_true rfl) ?_ | refine And.intro (And.intro rfl rfl) ?_ | exact rfl
                · rw [if_neg s1_5] at hr
                  by_cases s1_6 : l1 = 6
                  · rw [if_pos s1_6] at hr
                    refine And.intro (fun (q : l1.toInt < 0 ∨ 10 < l1.toInt) => absurd q (by rw [s1_6]; decide)) (fun _ => Exists.intro 107 (And.intro (show (#[59, 67, 75, 83, 91, 99, 107, 125, 130, 138, 143] : Array Int)[(l1.toInt - 0).toNat]? = some 107 from by rw [s1_6]; rfl) ?_))
                    refine zs_176_108 ?_
                    repeat' first | refine And.intro rfl ?_ | refine And.intro (Or.inl rfl) ?_ | refine And.intro (Or.inr rfl) ?_ | refine And.intro (Nat.le_of_ble_eq_true rfl) ?_ | refine And.intro (And.intro rfl rfl) ?_ | exact rfl
                    refine Exists.intro _ (Exists.intro _ (And.intro (zr_X5_cheersIn F I J d 0) ?_))
                    repeat' first | refine And.intro rfl ?_ | refine And.intro (Or.inl rfl) ?_ | refine And.intro (Or.inr rfl) ?_ | refine And.intro (Nat.le_of_ble_eq_true rfl) ?_ | refine And.intro (And.intro rfl rfl) ?_ | exact rfl
                    refine Exists.intro _ (Exists.intro _ (And.intro (zr_X5_cheersIn F I J d 1) ?_))
                    repeat' first | refine And.intro rfl ?_ | refine And.intro (Or.inl rfl) ?_ | refine And.intro (Or.inr rfl) ?_ | refine And.intro (Nat.le_of_ble_eq_true rfl) ?_ | refine And.intro (And.intro rfl rfl) ?_ | exact rfl
                    cases hr
                    repeat' first | refine And.intro rfl ?_ | refine And.intro (Or.inl rfl) ?_ | refine And.intro (Or.inr rfl) ?_ | refine And.intro (Nat.le_of_ble_eq_true rfl) ?_ | refine And.intro (And.intro rfl rfl) ?_ | exact rfl
                  · rw [if_neg s1_6] at hr
                    by_cases s1_7 : l1 = 7
                    · rw [if_pos s1_7] at hr
                      refine And.intro (fun (q : l1.toInt < 0 ∨ 10 < l1.toInt) => absurd q (by rw [s1_7]; decide)) (fun _ => Exists.intro 125 (And.intro (show (#[59, 67, 75, 83, 91, 99, 107, 125, 130, 138, 143] : Array Int)[(l1.toInt - 0).toNat]? = some 125 from by rw [s1_7]; rfl) ?_))
                      refine zs_176_126 ?_
                      repeat' first | refine And.intro rfl ?_ | refine And.intro (Or.inl rfl) ?_ | refine And.intro (Or.inr rfl) ?_ | refine And.intro (Nat.le_of_ble_eq_true rfl) ?_ | refine And.intro (And.intro rfl rfl) ?_ | exact rfl
                      cases hr
                      repeat' first | refine And.intro rfl ?_ | refine And.intro (Or.inl rfl) ?_ | refine And.intro (Or.inr rfl) ?_ | refine And.intro (Nat.le_of_ble_eq_true rfl) ?_ | refine And.intro (And.intro rfl rfl) ?_ | exact rfl
                    · rw [if_neg s1_7] at hr
                      by_cases s1_8 : l1 = 8
                      · rw [if_pos s1_8] at hr
                        refine And.intro (fun (q : l1.toInt < 0 ∨ 10 < l1.toInt) => absurd q (by rw [s1_8]; decide)) (fun _ => Exists.intro 130 (And.intro (show (#[59, 67, 75, 83, 91, 99, 107, 125, 130, 138, 143] : Array Int)[(l1.toInt - 0).toNat]? = some 130 from by rw [s1_8]; rfl) ?_))
                        refine zs_176_131 ?_
                        repeat' first | refine And.intro rfl ?_ | refine And.intro (Or.inl rfl) ?_ | refine And.intro (Or.inr rfl) ?_ | refine And.intro (Nat.le_of_ble_eq_true rfl) ?_ | refine And.intro (And.intro rfl rfl) ?_ | exact rfl
                        cases hr
                        repeat' first | refine And.intro rfl ?_ | refine And.intro (Or.inl rfl) ?_ | refine And.intro (Or.inr rfl) ?_ | refine And.intro (Nat.le_of_ble_eq_true rfl) ?_ | refine And.intro (And.intro rfl rfl) ?_ | exact rfl
                      · rw [if_neg s1_8] at hr
                        by_cases s1_9 : l1 = 9
                        · rw [if_pos s1_9] at hr
                          refine And.intro (fun (q : l1.toInt < 0 ∨ 10 < l1.toInt) => absurd q (by rw [s1_9]; decide)) (fun _ => Exists.intro 138 (And.intro (show (#[59, 67, 75, 83, 91, 99, 107, 125, 130, 138, 143] : Array Int)[(l1.toInt - 0).toNat]? = some 138 from by rw [s1_9]; rfl) ?_))
                          refine zs_176_139 ?_
                          repeat' first | refine And.intro rfl ?_ | refine And.intro (Or.inl rfl) ?_ | refine And.intro (Or.inr rfl) ?_ | refine And.intro (Nat.le_of_ble_eq_true rfl) ?_ | refine And.intro (And.intro rfl rfl) ?_ | exact rfl
                          cases hr
                          repeat' first | refine And.intro rfl ?_ | refine And.intro (Or.inl rfl) ?_ | refine And.intro (Or.inr rfl) ?_ | refine And.intro (Nat.le_of_ble_eq_true rfl) ?_ | refine And.intro (And.intro rfl rfl) ?_ | exact rfl
                        · rw [if_neg s1_9] at hr
                          by_cases s1_10 : l1 = 10
                          · rw [if_pos s1_10] at hr
                            refine And.intro (fun (q : l1.toInt < 0 ∨ 10 < l1.toInt) => absurd q (by rw [s1_10]; decide)) (fun _ => Exists.intro 143 (And.intro (show (#[59, 67, 75, 83, 91, 99, 107, 125, 130, 138, 143] : Array Int)[(l1.toInt - 0).toNat]? = some 143 from by rw [s1_10]; rfl) ?_))
                            refine zs_176_144 ?_
                            repeat' first | refine And.intro rfl ?_ | refine And.intro (Or.inl rfl) ?_ | refine And.intro (Or.inr rfl) ?_ | refine And.intro (Nat.le_of_ble_eq_true rfl) ?_ | refine And.intro (And.intro rfl rfl) ?_ | exact rfl
                            cases hr
                            repeat' first | refine And.intro rfl ?_ | refine And.intro (Or.inl rfl) ?_ | refine And.intro (Or.inr rfl) ?_ | refine And.intro (Nat.le_of_ble_eq_true rfl) ?_ | refine And.intro (And.intro rfl rfl) ?_ | exact rfl
                          · rw [if_neg s1_10] at hr
                            have es1_0 : ¬ l1.toInt = 0 := fun q => s1_0 (zz_toI q rfl)
                            have es1_1 : ¬ l1.toInt = 1 := fun q => s1_1 (zz_toI q rfl)
                            have es1_2 : ¬ l1.toInt = 2 := fun q => s1_2 (zz_toI q rfl)
                            have es1_3 : ¬ l1.toInt = 3 := fun q => s1_3 (zz_toI q rfl)
                            have es1_4 : ¬ l1.toInt = 4 := fun q => s1_4 (zz_toI q rfl)
                            have es1_5 : ¬ l1.toInt = 5 := fun q => s1_5 (zz_toI q rfl)
                            have es1_6 : ¬ l1.toInt = 6 := fun q => s1_6 (zz_toI q rfl)
                            have es1_7 : ¬ l1.toInt = 7 := fun q => s1_7 (zz_toI q rfl)
                            have es1_8 : ¬ l1.toInt = 8 := fun q => s1_8 (zz_toI q rfl)
                            have es1_9 : ¬ l1.toInt = 9 := fun q => s1_9 (zz_toI q rfl)
                            have es1_10 : ¬ l1.toInt = 10 := fun q => s1_10 (zz_toI q rfl)
                            refine And.intro (fun _ => ?_) (fun (q : ¬ (l1.toInt < 0 ∨ 10 < l1.toInt)) => absurd (by omega) q)
                            refine zs_176_149 ?_
                            repeat' first | refine And.intro rfl ?_ | refine And.intro (Or.inl rfl) ?_ | refine And.intro (Or.inr rfl) ?_ | refine And.intro (Nat.le_of_ble_eq_true rfl) ?_ | refine And.intro (And.intro rfl rfl) ?_ | exact rfl
                            cases hr
                            repeat' first | refine And.intro rfl ?_ | refine And.intro (Or.inl rfl) ?_ | refine And.intro (Or.inr rfl) ?_ | refine And.intro (Nat.le_of_ble_eq_true rfl) ?_ | refine And.intro (And.intro rfl rfl) ?_ | exact rfl
theorem zr_X11_count (F : zz_F) (I : Nat → Nat → Int32) (J : Nat → Nat → Int64) (d N : Nat) (l1 : Int32) (r : Int32 × (Nat → Nat → Int32) × (Nat → Nat → Int64)) (h : zf_X11_count N l1 I J = some r) : zz_run (d+1) 176 0 [some (.ref 2), some (.int (l1))] [] (zz_S F I J) (some (.int (r.1))) (zz_S F (I) (J)) := (zq_X11_count F d N N) l1 I J r h
def zb_X11_tellTurns_0 (N : Nat) (rec : Nat → Int32 → (Nat → Nat → Int32) → (Nat → Nat → Int64) → Option (Int32 × (Nat → Nat → Int32) × (Nat → Nat → Int64))) (l1 : Int32) (I : Nat → Nat → Int32) (J : Nat → Nat → Int64) : Option (Int32 × (Nat → Nat → Int32) × (Nat → Nat → Int64)) := rec 7 0 (zz_u I 2 3 0) J
def zb_X11_tellTurns_7 (N : Nat) (rec : Nat → Int32 → (Nat → Nat → Int32) → (Nat → Nat → Int64) → Option (Int32 × (Nat → Nat → Int32) × (Nat → Nat → Int64))) (l1 : Int32) (I : Nat → Nat → Int32) (J : Nat → Nat → Int64) : Option (Int32 × (Nat → Nat → Int32) × (Nat → Nat → Int64)) := if (I 41 5) ≤ l1 then (some (0, I, J)) else (rec 7 (l1 + 1) (zw_X11_addNumber I J ((zv_X4_turnAt I l1).toInt64)) (zx_X11_addNumber I J ((zv_X4_turnAt I l1).toInt64)))
def zl_X11_tellTurns (N : Nat) : Nat → Nat → Int32 → (Nat → Nat → Int32) → (Nat → Nat → Int64) → Option (Int32 × (Nat → Nat → Int32) × (Nat → Nat → Int64))
  | 0 => fun _ _ _ _ => none
  | n + 1 => fun pc l1 I J => if pc = 0 then zb_X11_tellTurns_0 N (zl_X11_tellTurns N n) l1 I J else (if pc = 7 then zb_X11_tellTurns_7 N (zl_X11_tellTurns N n) l1 I J else none)
def zf_X11_tellTurns (N : Nat)  (I : Nat → Nat → Int32) (J : Nat → Nat → Int64) : Option (Int32 × (Nat → Nat → Int32) × (Nat → Nat → Int64)) := zl_X11_tellTurns N N 0 0 I J
theorem zq_X11_tellTurns (F : zz_F) (d N : Nat) : ∀ n : Nat, (∀ (l1 : Int32) (I : Nat → Nat → Int32) (J : Nat → Nat → Int64) (r : Int32 × (Nat → Nat → Int32) × (Nat → Nat → Int64)), zl_X11_tellTurns N n 0 l1 I J = some r → zz_run (d+1) 188 0 [some (.ref 2), none] [] (zz_S F I J) none (zz_S F (r.2.1) (r.2.2))) ∧ (∀ (l1 : Int32) (I : Nat → Nat → Int32) (J : Nat → Nat → Int64) (r : Int32 × (Nat → Nat → Int32) × (Nat → Nat → Int64)), zl_X11_tellTurns N n 7 l1 I J = some r → zz_run (d+1) 188 7 [some (.ref 2), some (.int (l1))] [] (zz_S F I J) none (zz_S F (r.2.1) (r.2.2))) := by
  intro n
  induction n with
  | zero => exact ⟨fun _ _ _ _ h => zz_no h, fun _ _ _ _ h => zz_no h⟩
  | succ n ih =>
    obtain ⟨ih0, ih7⟩ := ih
    refine ⟨?_, ?_⟩
    · intro l1 I J r hr
      replace hr : zb_X11_tellTurns_0 N (zl_X11_tellTurns N n) l1 I J = some r := hr
      unfold zb_X11_tellTurns_0 at hr
      refine zs_188_0 ?_
      repeat' first | refine And.intro rfl ?_ | refine And.intro (Or.inl rfl) ?_ | refine And.intro (Or.inr rfl) ?_ | refine And.intro (Nat.le_of_ble_eq_true rfl) ?_ | refine And.intro (And.intro rfl rfl) ?_ | exact rfl
      exact zz_wk [true, true] rfl (ih7 _ _ _ _ hr)
    · intro l1 I J r hr
      replace hr : zb_X11_tellTurns_7 N (zl_X11_tellTurns N n) l1 I J = some r := hr
      unfold zb_X11_tellTurns_7 at hr
      refine zs_188_7 ?_
      repeat' first | refine And.intro rfl ?_ | refine And.intro (Or.inl rfl) ?_ | refine And.intro (Or.inr rfl) ?_ | refine And.intro (Nat.le_of_ble_eq_true rfl) ?_ | refine And.intro (And.intro rfl rfl) ?_ | exact rfl
      refine And.intro (fun (h1 : (I 41 5) ≤ l1) => ?_) (fun (h1 : ¬ ((I 41 5) ≤ l1)) => ?_)
      · rw [if_pos h1] at hr
        refine zs_188_37 ?_
        repeat' first | refine And.intro rfl ?_ | refine And.intro (Or.inl rfl) ?_ | refine And.intro (Or.inr rfl) ?_ | refine And.intro (Nat.le_of_ble_eq_true rfl) ?_ | refine And.intro (And.intro rfl rfl) ?_ | exact rfl
        cases hr
        repeat' first | refine And.intro rfl ?_ | refine And.intro (Or.inl rfl) ?_ | refine And.intro (Or.inr rfl) ?_ | refine And.intro (Nat.le_of_ble_eq_true rfl) ?_ | refine And.intro (And.intro rfl rfl) ?_ | exact rfl
      · rw [if_neg h1] at hr
        repeat' first | refine And.intro rfl ?_ | refine And.intro (Or.inl rfl) ?_ | refine And.intro (Or.inr rfl) ?_ | refine And.intro (Nat.le_of_ble_eq_true rfl) ?_ | refine And.intro (And.intro rfl rfl) ?_ | exact rfl
        refine Exists.intro _ (Exists.intro _ (And.intro (zr_X4_turnAt F I J d l1) ?_))
        repeat' first | refine And.intro rfl ?_ | refine And.intro (Or.inl rfl) ?_ | refine And.intro (Or.inr rfl) ?_ | refine And.intro (Nat.le_of_ble_eq_true rfl) ?_ | refine And.intro (And.intro rfl rfl) ?_ | exact rfl
        refine Exists.intro _ (Exists.intro _ (And.intro (zr_X11_addNumber F I J d ((zv_X4_turnAt I l1).toInt64)) ?_))
        repeat' first | refine And.intro rfl ?_ | refine And.intro (Or.inl rfl) ?_ | refine And.intro (Or.inr rfl) ?_ | refine And.intro (Nat.le_of_ble_eq_true rfl) ?_ | refine And.intro (And.intro rfl rfl) ?_ | exact rfl
        exact zz_wk [true, true] rfl (ih7 _ _ _ _ hr)
theorem zr_X11_tellTurns (F : zz_F) (I : Nat → Nat → Int32) (J : Nat → Nat → Int64) (d N : Nat)  (r : Int32 × (Nat → Nat → Int32) × (Nat → Nat → Int64)) (h : zf_X11_tellTurns N  I J = some r) : zz_run (d+1) 188 0 [some (.ref 2), none] [] (zz_S F I J) none (zz_S F (r.2.1) (r.2.2)) := (zq_X11_tellTurns F d N N).1 0 I J r h
def zb_X11_entry_0 (N : Nat) (rec : Nat → Int32 → Int32 → (Nat → Nat → Int32) → (Nat → Nat → Int64) → Option (Int32 × (Nat → Nat → Int32) × (Nat → Nat → Int64))) (l0 : Int32) (l1 : Int32) (I : Nat → Nat → Int32) (J : Nat → Nat → Int64) : Option (Int32 × (Nat → Nat → Int32) × (Nat → Nat → Int64)) := if l0 = 0 then (some (l1.toInt8.toInt32, I, J)) else (if l0 = 1 then (some (l1.toInt16.toInt32, I, J)) else (some (l1, I, J)))
def zl_X11_entry (N : Nat) : Nat → Nat → Int32 → Int32 → (Nat → Nat → Int32) → (Nat → Nat → Int64) → Option (Int32 × (Nat → Nat → Int32) × (Nat → Nat → Int64))
  | 0 => fun _ _ _ _ _ => none
  | n + 1 => fun pc l0 l1 I J => if pc = 0 then zb_X11_entry_0 N (zl_X11_entry N n) l0 l1 I J else none
def zf_X11_entry (N : Nat) (l0 : Int32) (l1 : Int32) (I : Nat → Nat → Int32) (J : Nat → Nat → Int64) : Option (Int32 × (Nat → Nat → Int32) × (Nat → Nat → Int64)) := zl_X11_entry N N 0 l0 l1 I J
theorem zq_X11_entry (F : zz_F) (d N : Nat) : ∀ n : Nat, (∀ (l0 : Int32) (l1 : Int32) (I : Nat → Nat → Int32) (J : Nat → Nat → Int64) (r : Int32 × (Nat → Nat → Int32) × (Nat → Nat → Int64)), zl_X11_entry N n 0 l0 l1 I J = some r → zz_run (d) 197 0 [some (.int (l0)), some (.int (l1))] [] (zz_S F I J) (some (.int (r.1))) (zz_S F (I) (J))) := by
  intro n
  induction n with
  | zero => exact fun _ _ _ _ _ h => zz_no h
  | succ n ih =>
    have ih0 := ih
    skip
    · intro l0 l1 I J r hr
      replace hr : zb_X11_entry_0 N (zl_X11_entry N n) l0 l1 I J = some r := hr
      unfold zb_X11_entry_0 at hr
      refine zs_197_0 ?_
      repeat' first | refine And.intro rfl ?_ | refine And.intro (Or.inl rfl) ?_ | refine And.intro (Or.inr rfl) ?_ | refine And.intro (Nat.le_of_ble_eq_true rfl) ?_ | refine And.intro (And.intro rfl rfl) ?_ | exact rfl
      by_cases s1_0 : l0 = 0
      · rw [if_pos s1_0] at hr
        refine zz_sw (t' := 28) (show zz_t 1 (Op.lookupswitch.offset [(0, 27), (1, 30)] 33 l0.toInt) = 28 from by rw [s1_0]; rfl) ?_
        refine zs_197_28 ?_
        repeat' first | refine And.intro rfl ?_ | refine And.intro (Or.inl rfl) ?_ | refine And.intro (Or.inr rfl) ?_ | refine And.intro (Nat.le_of_ble_eq_true rfl) ?_ | refine And.intro (And.intro rfl rfl) ?_ | exact rfl
        cases hr
        repeat' first | refine And.intro rfl ?_ | refine And.intro (Or.inl rfl) ?_ | refine And.intro (Or.inr rfl) ?_ | refine And.intro (Nat.le_of_ble_eq_true rfl) ?_ | refine And.intro (And.intro rfl rfl) ?_ | exact rfl
      · rw [if_neg s1_0] at hr
        by_cases s1_1 : l0 = 1
        · rw [if_pos s1_1] at hr
          refine zz_sw (t' := 31) (show zz_t 1 (Op.lookupswitch.offset [(0, 27), (1, 30)] 33 l0.toInt) = 31 from by rw [s1_1]; rfl) ?_
          refine zs_197_31 ?_
          repeat' first | refine And.intro rfl ?_ | refine And.intro (Or.inl rfl) ?_ | refine And.intro (Or.inr rfl) ?_ | refine And.intro (Nat.le_of_ble_eq_true rfl) ?_ | refine And.intro (And.intro rfl rfl) ?_ | exact rfl
          cases hr
          repeat' first | refine And.intro rfl ?_ | refine And.intro (Or.inl rfl) ?_ | refine And.intro (Or.inr rfl) ?_ | refine And.intro (Nat.le_of_ble_eq_true rfl) ?_ | refine And.intro (And.intro rfl rfl) ?_ | exact rfl
        · rw [if_neg s1_1] at hr
          have es1_0 : ¬ (0 : Int) = l0.toInt := fun q => s1_0 (zz_toI q.symm rfl)
          have es1_1 : ¬ (1 : Int) = l0.toInt := fun q => s1_1 (zz_toI q.symm rfl)
          refine zz_sw (t' := 34) (show zz_t 1 (Op.lookupswitch.offset [(0, 27), (1, 30)] 33 l0.toInt) = 34 from by simp only [Op.lookupswitch.offset, if_neg es1_0, if_neg es1_1]; rfl) ?_
          refine zs_197_34 ?_
          repeat' first | refine And.intro rfl ?_ | refine And.intro (Or.inl rfl) ?_ | refine And.intro (Or.inr rfl) ?_ | refine And.intro (Nat.le_of_ble_eq_true rfl) ?_ | refine And.intro (And.intro rfl rfl) ?_ | exact rfl
          cases hr
          repeat' first | refine And.intro rfl ?_ | refine And.intro (Or.inl rfl) ?_ | refine And.intro (Or.inr rfl) ?_ | refine And.intro (Nat.le_of_ble_eq_true rfl) ?_ | refine And.intro (And.intro rfl rfl) ?_ | exact rfl
theorem zr_X11_entry (F : zz_F) (I : Nat → Nat → Int32) (J : Nat → Nat → Int64) (d N : Nat) (l0 : Int32) (l1 : Int32) (r : Int32 × (Nat → Nat → Int32) × (Nat → Nat → Int64)) (h : zf_X11_entry N l0 l1 I J = some r) : zz_run (d) 197 0 [some (.int (l0)), some (.int (l1))] [] (zz_S F I J) (some (.int (r.1))) (zz_S F (I) (J)) := (zq_X11_entry F d N N) l0 l1 I J r h
def zb_X12_sign_0 (N : Nat) (rec : Nat → Int32 → Int32 → (Nat → Nat → Int32) → (Nat → Nat → Int64) → Option (Int32 × (Nat → Nat → Int32) × (Nat → Nat → Int64))) (l1 : Int32) (l2 : Int32) (I : Nat → Nat → Int32) (J : Nat → Nat → Int64) : Option (Int32 × (Nat → Nat → Int32) × (Nat → Nat → Int64)) := if ((I 52 4) + 4) ≤ 80 then (rec 20 l1 3 (zz_u I 52 7 0) J) else (some ((-1), zz_u I 52 7 0, J))
def zb_X12_sign_20 (N : Nat) (rec : Nat → Int32 → Int32 → (Nat → Nat → Int32) → (Nat → Nat → Int64) → Option (Int32 × (Nat → Nat → Int32) × (Nat → Nat → Int64))) (l1 : Int32) (l2 : Int32) (I : Nat → Nat → Int32) (J : Nat → Nat → Int64) : Option (Int32 × (Nat → Nat → Int32) × (Nat → Nat → Int64)) := if l2 < 0 then (some (I 52 4, I, J)) else (if ¬ ((I 52 4) < 0 ∨ 80 ≤ (I 52 4).toNatClampNeg) then (rec 20 l1 (l2 + (-1)) (zz_u (zz_u I 52 4 ((I 52 4) + 1)) 55 ((I 52 4).toNatClampNeg) (vp_nar .byte ((l1 >>> ((8 * l2) &&& 31)).toInt8.toInt32))) J) else none)
def zl_X12_sign (N : Nat) : Nat → Nat → Int32 → Int32 → (Nat → Nat → Int32) → (Nat → Nat → Int64) → Option (Int32 × (Nat → Nat → Int32) × (Nat → Nat → Int64))
  | 0 => fun _ _ _ _ _ => none
  | n + 1 => fun pc l1 l2 I J => if pc = 0 then zb_X12_sign_0 N (zl_X12_sign N n) l1 l2 I J else (if pc = 20 then zb_X12_sign_20 N (zl_X12_sign N n) l1 l2 I J else none)
def zf_X12_sign (N : Nat) (l1 : Int32) (I : Nat → Nat → Int32) (J : Nat → Nat → Int64) : Option (Int32 × (Nat → Nat → Int32) × (Nat → Nat → Int64)) := zl_X12_sign N N 0 l1 0 I J
theorem zq_X12_sign (F : zz_F) (d N : Nat) : ∀ n : Nat, (∀ (l1 : Int32) (l2 : Int32) (I : Nat → Nat → Int32) (J : Nat → Nat → Int64) (r : Int32 × (Nat → Nat → Int32) × (Nat → Nat → Int64)), zl_X12_sign N n 0 l1 l2 I J = some r → zz_run (d) 209 0 [some (.ref 52), some (.int (l1)), none] [] (zz_S F I J) (some (.int (r.1))) (zz_S F (r.2.1) (J))) ∧ (∀ (l1 : Int32) (l2 : Int32) (I : Nat → Nat → Int32) (J : Nat → Nat → Int64) (r : Int32 × (Nat → Nat → Int32) × (Nat → Nat → Int64)), zl_X12_sign N n 20 l1 l2 I J = some r → zz_run (d) 209 20 [some (.ref 52), some (.int (l1)), some (.int (l2))] [] (zz_S F I J) (some (.int (r.1))) (zz_S F (r.2.1) (J))) := by
  intro n
  induction n with
  | zero => exact ⟨fun _ _ _ _ _ h => zz_no h, fun _ _ _ _ _ h => zz_no h⟩
  | succ n ih =>
    obtain ⟨ih0, ih20⟩ := ih
    refine ⟨?_, ?_⟩
    · intro l1 l2 I J r hr
      replace hr : zb_X12_sign_0 N (zl_X12_sign N n) l1 l2 I J = some r := hr
      unfold zb_X12_sign_0 at hr
      refine zs_209_0 ?_
      repeat' first | refine And.intro rfl ?_ | refine And.intro (Or.inl rfl) ?_ | refine And.intro (Or.inr rfl) ?_ | refine And.intro (Nat.le_of_ble_eq_true rfl) ?_ | refine And.intro (And.intro rfl rfl) ?_ | exact rfl
      refine And.intro (fun (h1 : ((I 52 4) + 4) ≤ 80) => ?_) (fun (h1 : ¬ (((I 52 4) + 4) ≤ 80)) => ?_)
      · rw [if_pos h1] at hr
        refine zs_209_18 ?_
        repeat' first | refine And.intro rfl ?_ | refine And.intro (Or.inl rfl) ?_ | refine And.intro (Or.inr rfl) ?_ | refine And.intro (Nat.le_of_ble_eq_true rfl) ?_ | refine And.intro (And.intro rfl rfl) ?_ | exact rfl
        exact zz_wk [true, true, true] rfl (ih20 _ _ _ _ _ hr)
      · rw [if_neg h1] at hr
        repeat' first | refine And.intro rfl ?_ | refine And.intro (Or.inl rfl) ?_ | refine And.intro (Or.inr rfl) ?_ | refine And.intro (Nat.le_of_ble_eq_true rfl) ?_ | refine And.intro (And.intro rfl rfl) ?_ | exact rfl
        cases hr
        repeat' first | refine And.intro rfl ?_ | refine And.intro (Or.inl rfl) ?_ | refine And.intro (Or.inr rfl) ?_ | refine And.intro (Nat.le_of_ble_eq_true rfl) ?_ | refine And.intro (And.intro rfl rfl) ?_ | exact rfl
    · intro l1 l2 I J r hr
      replace hr : zb_X12_sign_20 N (zl_X12_sign N n) l1 l2 I J = some r := hr
      unfold zb_X12_sign_20 at hr
      refine zs_209_20 ?_
      repeat' first | refine And.intro rfl ?_ | refine And.intro (Or.inl rfl) ?_ | refine And.intro (Or.inr rfl) ?_ | refine And.intro (Nat.le_of_ble_eq_true rfl) ?_ | refine And.intro (And.intro rfl rfl) ?_ | exact rfl
      refine And.intro (fun (h2 : l2 < 0) => ?_) (fun (h2 : ¬ (l2 < 0)) => ?_)
      · rw [if_pos h2] at hr
        refine zs_209_53 ?_
        repeat' first | refine And.intro rfl ?_ | refine And.intro (Or.inl rfl) ?_ | refine And.intro (Or.inr rfl) ?_ | refine And.intro (Nat.le_of_ble_eq_true rfl) ?_ | refine And.intro (And.intro rfl rfl) ?_ | exact rfl
        cases hr
        repeat' first | refine And.intro rfl ?_ | refine And.intro (Or.inl rfl) ?_ | refine And.intro (Or.inr rfl) ?_ | refine And.intro (Nat.le_of_ble_eq_true rfl) ?_ | refine And.intro (And.intro rfl rfl) ?_ | exact rfl
      · rw [if_neg h2] at hr
        repeat' first | refine And.intro rfl ?_ | refine And.intro (Or.inl rfl) ?_ | refine And.intro (Or.inr rfl) ?_ | refine And.intro (Nat.le_of_ble_eq_true rfl) ?_ | refine And.intro (And.intro rfl rfl) ?_ | exact rfl
        have g1 : ¬ ((I 52 4) < 0 ∨ 80 ≤ (I 52 4).toNatClampNeg) := zz_g hr
        replace hr := zz_gt hr
        refine And.intro (g1) ?_
        repeat' first | refine And.intro rfl ?_ | refine And.intro (Or.inl rfl) ?_ | refine And.intro (Or.inr rfl) ?_ | refine And.intro (Nat.le_of_ble_eq_true rfl) ?_ | refine And.intro (And.intro rfl rfl) ?_ | exact rfl
        exact zz_wk [true, true, true] rfl (ih20 _ _ _ _ _ hr)
theorem zr_X12_sign (F : zz_F) (I : Nat → Nat → Int32) (J : Nat → Nat → Int64) (d N : Nat) (l1 : Int32) (r : Int32 × (Nat → Nat → Int32) × (Nat → Nat → Int64)) (h : zf_X12_sign N l1 I J = some r) : zz_run (d) 209 0 [some (.ref 52), some (.int (l1)), none] [] (zz_S F I J) (some (.int (r.1))) (zz_S F (r.2.1) (J)) := (zq_X12_sign F d N N).1 l1 0 I J r h
def zb_X12_whereBits_0 (N : Nat) (rec : Nat → Int32 → Int32 → Int32 → (Nat → Nat → Int32) → (Nat → Nat → Int64) → Option (Int32 × (Nat → Nat → Int32) × (Nat → Nat → Int64))) (l1 : Int32) (l2 : Int32) (l3 : Int32) (I : Nat → Nat → Int32) (J : Nat → Nat → Int64) : Option (Int32 × (Nat → Nat → Int32) × (Nat → Nat → Int64)) := rec 4 l1 0 0 I J
def zb_X12_whereBits_4 (N : Nat) (rec : Nat → Int32 → Int32 → Int32 → (Nat → Nat → Int32) → (Nat → Nat → Int64) → Option (Int32 × (Nat → Nat → Int32) × (Nat → Nat → Int64))) (l1 : Int32) (l2 : Int32) (l3 : Int32) (I : Nat → Nat → Int32) (J : Nat → Nat → Int64) : Option (Int32 × (Nat → Nat → Int32) × (Nat → Nat → Int64)) := if (I 52 1) ≤ l3 then (some (l2, I, J)) else (if ¬ (l3 < 0 ∨ 18 ≤ l3.toNatClampNeg) then (if ¬ (I 53 l3.toNatClampNeg) = l1 then (rec 4 l1 (l2 ||| 0) (l3 + 1) I J) else (rec 4 l1 (l2 ||| ((1 : Int32) <<< (l3 &&& 31))) (l3 + 1) I J)) else none)
def zl_X12_whereBits (N : Nat) : Nat → Nat → Int32 → Int32 → Int32 → (Nat → Nat → Int32) → (Nat → Nat → Int64) → Option (Int32 × (Nat → Nat → Int32) × (Nat → Nat → Int64))
  | 0 => fun _ _ _ _ _ _ => none
  | n + 1 => fun pc l1 l2 l3 I J => if pc = 0 then zb_X12_whereBits_0 N (zl_X12_whereBits N n) l1 l2 l3 I J else (if pc = 4 then zb_X12_whereBits_4 N (zl_X12_whereBits N n) l1 l2 l3 I J else none)
def zf_X12_whereBits (N : Nat) (l1 : Int32) (I : Nat → Nat → Int32) (J : Nat → Nat → Int64) : Option (Int32 × (Nat → Nat → Int32) × (Nat → Nat → Int64)) := zl_X12_whereBits N N 0 l1 0 0 I J
theorem zq_X12_whereBits (F : zz_F) (d N : Nat) : ∀ n : Nat, (∀ (l1 : Int32) (l2 : Int32) (l3 : Int32) (I : Nat → Nat → Int32) (J : Nat → Nat → Int64) (r : Int32 × (Nat → Nat → Int32) × (Nat → Nat → Int64)), zl_X12_whereBits N n 0 l1 l2 l3 I J = some r → zz_run (d) 232 0 [some (.ref 52), some (.int (l1)), none, none] [] (zz_S F I J) (some (.int (r.1))) (zz_S F (I) (J))) ∧ (∀ (l1 : Int32) (l2 : Int32) (l3 : Int32) (I : Nat → Nat → Int32) (J : Nat → Nat → Int64) (r : Int32 × (Nat → Nat → Int32) × (Nat → Nat → Int64)), zl_X12_whereBits N n 4 l1 l2 l3 I J = some r → zz_run (d) 232 4 [some (.ref 52), some (.int (l1)), some (.int (l2)), some (.int (l3))] [] (zz_S F I J) (some (.int (r.1))) (zz_S F (I) (J))) := by
  intro n
  induction n with
  | zero => exact ⟨fun _ _ _ _ _ _ h => zz_no h, fun _ _ _ _ _ _ h => zz_no h⟩
  | succ n ih =>
    obtain ⟨ih0, ih4⟩ := ih
    refine ⟨?_, ?_⟩
    · intro l1 l2 l3 I J r hr
      replace hr : zb_X12_whereBits_0 N (zl_X12_whereBits N n) l1 l2 l3 I J = some r := hr
      unfold zb_X12_whereBits_0 at hr
      refine zs_232_0 ?_
      repeat' first | refine And.intro rfl ?_ | refine And.intro (Or.inl rfl) ?_ | refine And.intro (Or.inr rfl) ?_ | refine And.intro (Nat.le_of_ble_eq_true rfl) ?_ | refine And.intro (And.intro rfl rfl) ?_ | exact rfl
      exact zz_wk [true, true, true, true] rfl (ih4 _ _ _ _ _ _ hr)
    · intro l1 l2 l3 I J r hr
      replace hr : zb_X12_whereBits_4 N (zl_X12_whereBits N n) l1 l2 l3 I J = some r := hr
      unfold zb_X12_whereBits_4 at hr
      refine zs_232_4 ?_
      repeat' first | refine And.intro rfl ?_ | refine And.intro (Or.inl rfl) ?_ | refine And.intro (Or.inr rfl) ?_ | refine And.intro (Nat.le_of_ble_eq_true rfl) ?_ | refine And.intro (And.intro rfl rfl) ?_ | exact rfl
      refine And.intro (fun (h1 : (I 52 1) ≤ l3) => ?_) (fun (h1 : ¬ ((I 52 1) ≤ l3)) => ?_)
      · rw [if_pos h1] at hr
        refine zs_232_38 ?_
        repeat' first | refine And.intro rfl ?_ | refine And.intro (Or.inl rfl) ?_ | refine And.intro (Or.inr rfl) ?_ | refine And.intro (Nat.le_of_ble_eq_true rfl) ?_ | refine And.intro (And.intro rfl rfl) ?_ | exact rfl
        cases hr
        repeat' first | refine And.intro rfl ?_ | refine And.intro (Or.inl rfl) ?_ | refine And.intro (Or.inr rfl) ?_ | refine And.intro (Nat.le_of_ble_eq_true rfl) ?_ | refine And.intro (And.intro rfl rfl) ?_ | exact rfl
      · rw [if_neg h1] at hr
        repeat' first | refine And.intro rfl ?_ | refine And.intro (Or.inl rfl) ?_ | refine And.intro (Or.inr rfl) ?_ | refine And.intro (Nat.le_of_ble_eq_true rfl) ?_ | refine And.intro (And.intro rfl rfl) ?_ | exact rfl
        have g1 : ¬ (l3 < 0 ∨ 18 ≤ l3.toNatClampNeg) := zz_g hr
        replace hr := zz_gt hr
        refine And.intro (g1) ?_
        repeat' first | refine And.intro rfl ?_ | refine And.intro (Or.inl rfl) ?_ | refine And.intro (Or.inr rfl) ?_ | refine And.intro (Nat.le_of_ble_eq_true rfl) ?_ | refine And.intro (And.intro rfl rfl) ?_ | exact rfl
        refine And.intro (fun (h2 : ¬ (I 53 l3.toNatClampNeg) = l1) => ?_) (fun (h2 : ¬ (¬ (I 53 l3.toNatClampNeg) = l1)) => ?_)
        · rw [if_pos h2] at hr
          refine zs_232_29 ?_
          repeat' first | refine And.intro rfl ?_ | refine And.intro (Or.inl rfl) ?_ | refine And.intro (Or.inr rfl) ?_ | refine And.intro (Nat.le_of_ble_eq_true rfl) ?_ | refine And.intro (And.intro rfl rfl) ?_ | exact rfl
          refine zs_232_30 ?_
          repeat' first | refine And.intro rfl ?_ | refine And.intro (Or.inl rfl) ?_ | refine And.intro (Or.inr rfl) ?_ | refine And.intro (Nat.le_of_ble_eq_true rfl) ?_ | refine And.intro (And.intro rfl rfl) ?_ | exact rfl
          exact zz_wk [true, true, true, true] rfl (ih4 _ _ _ _ _ _ hr)
        · rw [if_neg h2] at hr
          repeat' first | refine And.intro rfl ?_ | refine And.intro (Or.inl rfl) ?_ | refine And.intro (Or.inr rfl) ?_ | refine And.intro (Nat.le_of_ble_eq_true rfl) ?_ | refine And.intro (And.intro rfl rfl) ?_ | exact rfl
          refine zs_232_30 ?_
          repeat' first | refine And.intro rfl ?_ | refine And.intro (Or.inl rfl) ?_ | refine And.intro (Or.inr rfl) ?_ | refine And.intro (Nat.le_of_ble_eq_true rfl) ?_ | refine And.intro (And.intro rfl rfl) ?_ | exact rfl
          exact zz_wk [true, true, true, true] rfl (ih4 _ _ _ _ _ _ hr)
theorem zr_X12_whereBits (F : zz_F) (I : Nat → Nat → Int32) (J : Nat → Nat → Int64) (d N : Nat) (l1 : Int32) (r : Int32 × (Nat → Nat → Int32) × (Nat → Nat → Int64)) (h : zf_X12_whereBits N l1 I J = some r) : zz_run (d) 232 0 [some (.ref 52), some (.int (l1)), none, none] [] (zz_S F I J) (some (.int (r.1))) (zz_S F (I) (J)) := (zq_X12_whereBits F d N N).1 l1 0 0 I J r h
