/-! methods with loops, printed by wip/whole/loop.py -/
def zb_X12_remember__62_0 (N : Nat) (rec : Nat → Int32 → (Nat → Nat → Int32) → (Nat → Nat → Int64) → Option (Int32 × (Nat → Nat → Int32) × (Nat → Nat → Int64))) (l2 : Int32) (I : Nat → Nat → Int32) (J : Nat → Nat → Int64) : Option (Int32 × (Nat → Nat → Int32) × (Nat → Nat → Int64)) := if ¬ (I 52 20) = 12 then ((zf_X12_lay__62_61 N (18 * (I 52 20)) I J).bind fun r1 => some (0, zz_u r1.2.1 52 20 ((r1.2.1 52 20) + 1), J)) else (rec 11 0 I J)
def zb_X12_remember__62_11 (N : Nat) (rec : Nat → Int32 → (Nat → Nat → Int32) → (Nat → Nat → Int64) → Option (Int32 × (Nat → Nat → Int32) × (Nat → Nat → Int64))) (l2 : Int32) (I : Nat → Nat → Int32) (J : Nat → Nat → Int64) : Option (Int32 × (Nat → Nat → Int32) × (Nat → Nat → Int64)) := if 198 ≤ l2 then ((zf_X12_lay__62_61 N (18 * ((I 52 20) - 1)) (zz_u I 52 20 ((I 52 20) - 1)) J).bind fun r2 => some (0, zz_u r2.2.1 52 20 ((r2.2.1 52 20) + 1), J)) else (if ¬ ((l2 + 18) < 0 ∨ 216 ≤ (l2 + 18).toNatClampNeg) then (if ¬ (l2 < 0 ∨ 216 ≤ l2.toNatClampNeg) then (rec 11 (l2 + 1) (zz_u I 61 l2.toNatClampNeg (I 61 ((l2 + 18).toNatClampNeg))) J) else none) else none)
def zl_X12_remember__62 (N : Nat) : Nat → Nat → Int32 → (Nat → Nat → Int32) → (Nat → Nat → Int64) → Option (Int32 × (Nat → Nat → Int32) × (Nat → Nat → Int64))
  | 0 => fun _ _ _ _ => none
  | n + 1 => fun pc l2 I J => if pc = 0 then zb_X12_remember__62_0 N (zl_X12_remember__62 N n) l2 I J else (if pc = 11 then zb_X12_remember__62_11 N (zl_X12_remember__62 N n) l2 I J else none)
def zf_X12_remember__62 (N : Nat)  (I : Nat → Nat → Int32) (J : Nat → Nat → Int64) : Option (Int32 × (Nat → Nat → Int32) × (Nat → Nat → Int64)) := zl_X12_remember__62 N N 0 0 I J
theorem zq_X12_remember__62 (F : zz_F) (d N : Nat) : ∀ n : Nat, (∀ (l2 : Int32) (I : Nat → Nat → Int32) (J : Nat → Nat → Int64) (r : Int32 × (Nat → Nat → Int32) × (Nat → Nat → Int64)), zl_X12_remember__62 N n 0 l2 I J = some r → zz_run (d+1) 241 0 [some (.ref 52), some (.ref 62), none] [] (zz_S F I J) none (zz_S F (r.2.1) (J))) ∧ (∀ (l2 : Int32) (I : Nat → Nat → Int32) (J : Nat → Nat → Int64) (r : Int32 × (Nat → Nat → Int32) × (Nat → Nat → Int64)), zl_X12_remember__62 N n 11 l2 I J = some r → zz_run (d+1) 241 11 [some (.ref 52), some (.ref 62), some (.int (l2))] [] (zz_S F I J) none (zz_S F (r.2.1) (J))) := by
  intro n
  induction n with
  | zero => exact ⟨fun _ _ _ _ h => zz_no h, fun _ _ _ _ h => zz_no h⟩
  | succ n ih =>
    obtain ⟨ih0, ih11⟩ := ih
    refine ⟨?_, ?_⟩
    · intro l2 I J r hr
      replace hr : zb_X12_remember__62_0 N (zl_X12_remember__62 N n) l2 I J = some r := hr
      unfold zb_X12_remember__62_0 at hr
      refine zs_241_0 ?_
      repeat' first | refine And.intro rfl ?_ | refine And.intro (Or.inl rfl) ?_ | refine And.intro (Or.inr rfl) ?_ | refine And.intro (Nat.le_of_ble_eq_true rfl) ?_ | refine And.intro (And.intro rfl rfl) ?_ | exact rfl
      refine And.intro (fun (h1 : ¬ (I 52 20) = 12) => ?_) (fun (h1 : ¬ (¬ (I 52 20) = 12)) => ?_)
      · rw [if_pos h1] at hr
        refine zs_241_49 ?_
        repeat' first | refine And.intro rfl ?_ | refine And.intro (Or.inl rfl) ?_ | refine And.intro (Or.inr rfl) ?_ | refine And.intro (Nat.le_of_ble_eq_true rfl) ?_ | refine And.intro (And.intro rfl rfl) ?_ | exact rfl
        obtain ⟨r1, cr1, hr⟩ := Option.bind_eq_some_iff.mp hr
        refine Exists.intro _ (Exists.intro _ (And.intro (zr_X12_lay__62_61 F I J d N (18 * (I 52 20)) r1 cr1) ?_))
        repeat' first | refine And.intro rfl ?_ | refine And.intro (Or.inl rfl) ?_ | refine And.intro (Or.inr rfl) ?_ | refine And.intro (Nat.le_of_ble_eq_true rfl) ?_ | refine And.intro (And.intro rfl rfl) ?_ | exact rfl
        cases hr
        repeat' first | refine And.intro rfl ?_ | refine And.intro (Or.inl rfl) ?_ | refine And.intro (Or.inr rfl) ?_ | refine And.intro (Nat.le_of_ble_eq_true rfl) ?_ | refine And.intro (And.intro rfl rfl) ?_ | exact rfl
      · rw [if_neg h1] at hr
        repeat' first | refine And.intro rfl ?_ | refine And.intro (Or.inl rfl) ?_ | refine And.intro (Or.inr rfl) ?_ | refine And.intro (Nat.le_of_ble_eq_true rfl) ?_ | refine And.intro (And.intro rfl rfl) ?_ | exact rfl
        exact zz_wk [true, true, true] rfl (ih11 _ _ _ _ hr)
    · intro l2 I J r hr
      replace hr : zb_X12_remember__62_11 N (zl_X12_remember__62 N n) l2 I J = some r := hr
      unfold zb_X12_remember__62_11 at hr
      refine zs_241_11 ?_
      repeat' first | refine And.intro rfl ?_ | refine And.intro (Or.inl rfl) ?_ | refine And.intro (Or.inr rfl) ?_ | refine And.intro (Nat.le_of_ble_eq_true rfl) ?_ | refine And.intro (And.intro rfl rfl) ?_ | exact rfl
      refine And.intro (fun (h2 : 198 ≤ l2) => ?_) (fun (h2 : ¬ (198 ≤ l2)) => ?_)
      · rw [if_pos h2] at hr
        refine zs_241_39 ?_
        repeat' first | refine And.intro rfl ?_ | refine And.intro (Or.inl rfl) ?_ | refine And.intro (Or.inr rfl) ?_ | refine And.intro (Nat.le_of_ble_eq_true rfl) ?_ | refine And.intro (And.intro rfl rfl) ?_ | exact rfl
        refine zs_241_49 ?_
        repeat' first | refine And.intro rfl ?_ | refine And.intro (Or.inl rfl) ?_ | refine And.intro (Or.inr rfl) ?_ | refine And.intro (Nat.le_of_ble_eq_true rfl) ?_ | refine And.intro (And.intro rfl rfl) ?_ | exact rfl
        obtain ⟨r2, cr2, hr⟩ := Option.bind_eq_some_iff.mp hr
        refine Exists.intro _ (Exists.intro _ (And.intro (zr_X12_lay__62_61 F (zz_u I 52 20 ((I 52 20) - 1)) J d N (18 * ((I 52 20) - 1)) r2 cr2) ?_))
        repeat' first | refine And.intro rfl ?_ | refine And.intro (Or.inl rfl) ?_ | refine And.intro (Or.inr rfl) ?_ | refine And.intro (Nat.le_of_ble_eq_true rfl) ?_ | refine And.intro (And.intro rfl rfl) ?_ | exact rfl
        cases hr
        repeat' first | refine And.intro rfl ?_ | refine And.intro (Or.inl rfl) ?_ | refine And.intro (Or.inr rfl) ?_ | refine And.intro (Nat.le_of_ble_eq_true rfl) ?_ | refine And.intro (And.intro rfl rfl) ?_ | exact rfl
      · rw [if_neg h2] at hr
        repeat' first | refine And.intro rfl ?_ | refine And.intro (Or.inl rfl) ?_ | refine And.intro (Or.inr rfl) ?_ | refine And.intro (Nat.le_of_ble_eq_true rfl) ?_ | refine And.intro (And.intro rfl rfl) ?_ | exact rfl
        have g3 : ¬ ((l2 + 18) < 0 ∨ 216 ≤ (l2 + 18).toNatClampNeg) := zz_g hr
        replace hr := zz_gt hr
        refine And.intro (g3) ?_
        repeat' first | refine And.intro rfl ?_ | refine And.intro (Or.inl rfl) ?_ | refine And.intro (Or.inr rfl) ?_ | refine And.intro (Nat.le_of_ble_eq_true rfl) ?_ | refine And.intro (And.intro rfl rfl) ?_ | exact rfl
        have g4 : ¬ (l2 < 0 ∨ 216 ≤ l2.toNatClampNeg) := zz_g hr
        replace hr := zz_gt hr
        refine And.intro (g4) ?_
        repeat' first | refine And.intro rfl ?_ | refine And.intro (Or.inl rfl) ?_ | refine And.intro (Or.inr rfl) ?_ | refine And.intro (Nat.le_of_ble_eq_true rfl) ?_ | refine And.intro (And.intro rfl rfl) ?_ | exact rfl
        exact zz_wk [true, true, true] rfl (ih11 _ _ _ _ hr)
theorem zr_X12_remember__62 (F : zz_F) (I : Nat → Nat → Int32) (J : Nat → Nat → Int64) (d N : Nat)  (r : Int32 × (Nat → Nat → Int32) × (Nat → Nat → Int64)) (h : zf_X12_remember__62 N  I J = some r) : zz_run (d+1) 241 0 [some (.ref 52), some (.ref 62), none] [] (zz_S F I J) none (zz_S F (r.2.1) (J)) := (zq_X12_remember__62 F d N N).1 0 I J r h
def zb_X12_left_0 (N : Nat) (rec : Nat → Int32 → (Nat → Nat → Int32) → (Nat → Nat → Int64) → Option (Int32 × (Nat → Nat → Int32) × (Nat → Nat → Int64))) (l1 : Int32) (I : Nat → Nat → Int32) (J : Nat → Nat → Int64) : Option (Int32 × (Nat → Nat → Int32) × (Nat → Nat → Int64)) := (zf_X12_whereBits N 0 I J).bind fun r1 => (zf_X12_ofPlay N r1.1 l1 I J).bind fun r2 => some (zv_J6_bitCount r2.1, I, J)
def zl_X12_left (N : Nat) : Nat → Nat → Int32 → (Nat → Nat → Int32) → (Nat → Nat → Int64) → Option (Int32 × (Nat → Nat → Int32) × (Nat → Nat → Int64))
  | 0 => fun _ _ _ _ => none
  | n + 1 => fun pc l1 I J => if pc = 0 then zb_X12_left_0 N (zl_X12_left N n) l1 I J else none
def zf_X12_left (N : Nat) (l1 : Int32) (I : Nat → Nat → Int32) (J : Nat → Nat → Int64) : Option (Int32 × (Nat → Nat → Int32) × (Nat → Nat → Int64)) := zl_X12_left N N 0 l1 I J
theorem zq_X12_left (F : zz_F) (d N : Nat) : ∀ n : Nat, (∀ (l1 : Int32) (I : Nat → Nat → Int32) (J : Nat → Nat → Int64) (r : Int32 × (Nat → Nat → Int32) × (Nat → Nat → Int64)), zl_X12_left N n 0 l1 I J = some r → zz_run (d+3) 248 0 [some (.ref 52), some (.int (l1))] [] (zz_S F I J) (some (.int (r.1))) (zz_S F (I) (J))) := by
  intro n
  induction n with
  | zero => exact fun _ _ _ _ h => zz_no h
  | succ n ih =>
    have ih0 := ih
    skip
    · intro l1 I J r hr
      replace hr : zb_X12_left_0 N (zl_X12_left N n) l1 I J = some r := hr
      unfold zb_X12_left_0 at hr
      refine zs_248_0 ?_
      repeat' first | refine And.intro rfl ?_ | refine And.intro (Or.inl rfl) ?_ | refine And.intro (Or.inr rfl) ?_ | refine And.intro (Nat.le_of_ble_eq_true rfl) ?_ | refine And.intro (And.intro rfl rfl) ?_ | exact rfl
      obtain ⟨r1, cr1, hr⟩ := Option.bind_eq_some_iff.mp hr
      refine Exists.intro _ (Exists.intro _ (And.intro (zr_X12_whereBits F I J (d+2) N 0 r1 cr1) ?_))
      repeat' first | refine And.intro rfl ?_ | refine And.intro (Or.inl rfl) ?_ | refine And.intro (Or.inr rfl) ?_ | refine And.intro (Nat.le_of_ble_eq_true rfl) ?_ | refine And.intro (And.intro rfl rfl) ?_ | exact rfl
      obtain ⟨r2, cr2, hr⟩ := Option.bind_eq_some_iff.mp hr
      refine Exists.intro _ (Exists.intro _ (And.intro (zr_X12_ofPlay F I J d N r1.1 l1 r2 cr2) ?_))
      repeat' first | refine And.intro rfl ?_ | refine And.intro (Or.inl rfl) ?_ | refine And.intro (Or.inr rfl) ?_ | refine And.intro (Nat.le_of_ble_eq_true rfl) ?_ | refine And.intro (And.intro rfl rfl) ?_ | exact rfl
      refine Exists.intro _ (Exists.intro _ (And.intro (zr_J6_bitCount F I J (d+2) r2.1) ?_))
      repeat' first | refine And.intro rfl ?_ | refine And.intro (Or.inl rfl) ?_ | refine And.intro (Or.inr rfl) ?_ | refine And.intro (Nat.le_of_ble_eq_true rfl) ?_ | refine And.intro (And.intro rfl rfl) ?_ | exact rfl
      cases hr
      repeat' first | refine And.intro rfl ?_ | refine And.intro (Or.inl rfl) ?_ | refine And.intro (Or.inr rfl) ?_ | refine And.intro (Nat.le_of_ble_eq_true rfl) ?_ | refine And.intro (And.intro rfl rfl) ?_ | exact rfl
theorem zr_X12_left (F : zz_F) (I : Nat → Nat → Int32) (J : Nat → Nat → Int64) (d N : Nat) (l1 : Int32) (r : Int32 × (Nat → Nat → Int32) × (Nat → Nat → Int64)) (h : zf_X12_left N l1 I J = some r) : zz_run (d+3) 248 0 [some (.ref 52), some (.int (l1))] [] (zz_S F I J) (some (.int (r.1))) (zz_S F (I) (J)) := (zq_X12_left F d N N) l1 I J r h
def zb_X12_cut_0 (N : Nat) (rec : Nat → Int32 → (Nat → Nat → Int32) → (Nat → Nat → Int64) → Option (Int32 × (Nat → Nat → Int32) × (Nat → Nat → Int64))) (l1 : Int32) (I : Nat → Nat → Int32) (J : Nat → Nat → Int64) : Option (Int32 × (Nat → Nat → Int32) × (Nat → Nat → Int64)) := if ¬ (zv_X12_isScene (zz_u I 52 7 0) l1) = 0 then (if ¬ (l1 < 0 ∨ 18 ≤ l1.toNatClampNeg) then (if (I 53 l1.toNatClampNeg) = 0 then ((zf_X12_remember__53 N  (zz_u I 52 7 0) J).bind fun r2 => if ¬ (((7 * l1) + 0) < 0 ∨ 84 ≤ ((7 * l1) + 0).toNatClampNeg) then ((zf_X12_left N (zv_X12_playOf (zz_u r2.2.1 53 l1.toNatClampNeg 2) l1) (zz_u r2.2.1 53 l1.toNatClampNeg 2) J).bind fun r4 => some (r4.1, zz_u r2.2.1 53 l1.toNatClampNeg 2, J)) else none) else (some ((-2), zz_u I 52 7 0, J))) else none) else (some ((-1), zz_u I 52 7 0, J))
def zl_X12_cut (N : Nat) : Nat → Nat → Int32 → (Nat → Nat → Int32) → (Nat → Nat → Int64) → Option (Int32 × (Nat → Nat → Int32) × (Nat → Nat → Int64))
  | 0 => fun _ _ _ _ => none
  | n + 1 => fun pc l1 I J => if pc = 0 then zb_X12_cut_0 N (zl_X12_cut N n) l1 I J else none
def zf_X12_cut (N : Nat) (l1 : Int32) (I : Nat → Nat → Int32) (J : Nat → Nat → Int64) : Option (Int32 × (Nat → Nat → Int32) × (Nat → Nat → Int64)) := zl_X12_cut N N 0 l1 I J
theorem zq_X12_cut (F : zz_F) (d N : Nat) : ∀ n : Nat, (∀ (l1 : Int32) (I : Nat → Nat → Int32) (J : Nat → Nat → Int64) (r : Int32 × (Nat → Nat → Int32) × (Nat → Nat → Int64)), zl_X12_cut N n 0 l1 I J = some r → zz_run (d+4) 249 0 [some (.ref 52), some (.int (l1))] [] (zz_S F I J) (some (.int (r.1))) (zz_S F (r.2.1) (J))) := by
  intro n
  induction n with
  | zero => exact fun _ _ _ _ h => zz_no h
  | succ n ih =>
    have ih0 := ih
    skip
    · intro l1 I J r hr
      replace hr : zb_X12_cut_0 N (zl_X12_cut N n) l1 I J = some r := hr
      unfold zb_X12_cut_0 at hr
      refine zs_249_0 ?_
      repeat' first | refine And.intro rfl ?_ | refine And.intro (Or.inl rfl) ?_ | refine And.intro (Or.inr rfl) ?_ | refine And.intro (Nat.le_of_ble_eq_true rfl) ?_ | refine And.intro (And.intro rfl rfl) ?_ | exact rfl
      refine Exists.intro _ (Exists.intro _ (And.intro (zr_X12_isScene F (zz_u I 52 7 0) J (d+2) l1) ?_))
      repeat' first | refine And.intro rfl ?_ | refine And.intro (Or.inl rfl) ?_ | refine And.intro (Or.inr rfl) ?_ | refine And.intro (Nat.le_of_ble_eq_true rfl) ?_ | refine And.intro (And.intro rfl rfl) ?_ | exact rfl
      refine And.intro (fun (h1 : ¬ (zv_X12_isScene (zz_u I 52 7 0) l1) = 0) => ?_) (fun (h1 : ¬ (¬ (zv_X12_isScene (zz_u I 52 7 0) l1) = 0)) => ?_)
      · rw [if_pos h1] at hr
        refine zs_249_15 ?_
        repeat' first | refine And.intro rfl ?_ | refine And.intro (Or.inl rfl) ?_ | refine And.intro (Or.inr rfl) ?_ | refine And.intro (Nat.le_of_ble_eq_true rfl) ?_ | refine And.intro (And.intro rfl rfl) ?_ | exact rfl
        have g1 : ¬ (l1 < 0 ∨ 18 ≤ l1.toNatClampNeg) := zz_g hr
        replace hr := zz_gt hr
        refine And.intro (g1) ?_
        repeat' first | refine And.intro rfl ?_ | refine And.intro (Or.inl rfl) ?_ | refine And.intro (Or.inr rfl) ?_ | refine And.intro (Nat.le_of_ble_eq_true rfl) ?_ | refine And.intro (And.intro rfl rfl) ?_ | exact rfl
        refine And.intro (fun (h2 : (I 53 l1.toNatClampNeg) = 0) => ?_) (fun (h2 : ¬ ((I 53 l1.toNatClampNeg) = 0)) => ?_)
        · rw [if_pos h2] at hr
          refine zs_249_27 ?_
          repeat' first | refine And.intro rfl ?_ | refine And.intro (Or.inl rfl) ?_ | refine And.intro (Or.inr rfl) ?_ | refine And.intro (Nat.le_of_ble_eq_true rfl) ?_ | refine And.intro (And.intro rfl rfl) ?_ | exact rfl
          obtain ⟨r2, cr2, hr⟩ := Option.bind_eq_some_iff.mp hr
          refine Exists.intro _ (Exists.intro _ (And.intro (zr_X12_remember__53 F (zz_u I 52 7 0) J (d+2) N  r2 cr2) ?_))
          repeat' first | refine And.intro rfl ?_ | refine And.intro (Or.inl rfl) ?_ | refine And.intro (Or.inr rfl) ?_ | refine And.intro (Nat.le_of_ble_eq_true rfl) ?_ | refine And.intro (And.intro rfl rfl) ?_ | exact rfl
          refine And.intro (g1) ?_
          repeat' first | refine And.intro rfl ?_ | refine And.intro (Or.inl rfl) ?_ | refine And.intro (Or.inr rfl) ?_ | refine And.intro (Nat.le_of_ble_eq_true rfl) ?_ | refine And.intro (And.intro rfl rfl) ?_ | exact rfl
          have g3 : ¬ (((7 * l1) + 0) < 0 ∨ 84 ≤ ((7 * l1) + 0).toNatClampNeg) := zz_g hr
          replace hr := zz_gt hr
          refine Exists.intro _ (Exists.intro _ (And.intro (zr_X12_playOf F (zz_u r2.2.1 53 l1.toNatClampNeg 2) J (d+2) l1 g3) ?_))
          repeat' first | refine And.intro rfl ?_ | refine And.intro (Or.inl rfl) ?_ | refine And.intro (Or.inr rfl) ?_ | refine And.intro (Nat.le_of_ble_eq_true rfl) ?_ | refine And.intro (And.intro rfl rfl) ?_ | exact rfl
          obtain ⟨r4, cr4, hr⟩ := Option.bind_eq_some_iff.mp hr
          refine Exists.intro _ (Exists.intro _ (And.intro (zr_X12_left F (zz_u r2.2.1 53 l1.toNatClampNeg 2) J d N (zv_X12_playOf (zz_u r2.2.1 53 l1.toNatClampNeg 2) l1) r4 cr4) ?_))
          repeat' first | refine And.intro rfl ?_ | refine And.intro (Or.inl rfl) ?_ | refine And.intro (Or.inr rfl) ?_ | refine And.intro (Nat.le_of_ble_eq_true rfl) ?_ | refine And.intro (And.intro rfl rfl) ?_ | exact rfl
          cases hr
          repeat' first | refine And.intro rfl ?_ | refine And.intro (Or.inl rfl) ?_ | refine And.intro (Or.inr rfl) ?_ | refine And.intro (Nat.le_of_ble_eq_true rfl) ?_ | refine And.intro (And.intro rfl rfl) ?_ | exact rfl
        · rw [if_neg h2] at hr
          repeat' first | refine And.intro rfl ?_ | refine And.intro (Or.inl rfl) ?_ | refine And.intro (Or.inr rfl) ?_ | refine And.intro (Nat.le_of_ble_eq_true rfl) ?_ | refine And.intro (And.intro rfl rfl) ?_ | exact rfl
          cases hr
          repeat' first | refine And.intro rfl ?_ | refine And.intro (Or.inl rfl) ?_ | refine And.intro (Or.inr rfl) ?_ | refine And.intro (Nat.le_of_ble_eq_true rfl) ?_ | refine And.intro (And.intro rfl rfl) ?_ | exact rfl
      · rw [if_neg h1] at hr
        repeat' first | refine And.intro rfl ?_ | refine And.intro (Or.inl rfl) ?_ | refine And.intro (Or.inr rfl) ?_ | refine And.intro (Nat.le_of_ble_eq_true rfl) ?_ | refine And.intro (And.intro rfl rfl) ?_ | exact rfl
        cases hr
        repeat' first | refine And.intro rfl ?_ | refine And.intro (Or.inl rfl) ?_ | refine And.intro (Or.inr rfl) ?_ | refine And.intro (Nat.le_of_ble_eq_true rfl) ?_ | refine And.intro (And.intro rfl rfl) ?_ | exact rfl
theorem zr_X12_cut (F : zz_F) (I : Nat → Nat → Int32) (J : Nat → Nat → Int64) (d N : Nat) (l1 : Int32) (r : Int32 × (Nat → Nat → Int32) × (Nat → Nat → Int64)) (h : zf_X12_cut N l1 I J = some r) : zz_run (d+4) 249 0 [some (.ref 52), some (.int (l1))] [] (zz_S F I J) (some (.int (r.1))) (zz_S F (r.2.1) (J)) := (zq_X12_cut F d N N) l1 I J r h
def zb_X12_puts_0 (N : Nat) (rec : Nat → Int32 → Int32 → (Nat → Nat → Int32) → (Nat → Nat → Int64) → Option (Int32 × (Nat → Nat → Int32) × (Nat → Nat → Int64))) (l1 : Int32) (l2 : Int32) (I : Nat → Nat → Int32) (J : Nat → Nat → Int64) : Option (Int32 × (Nat → Nat → Int32) × (Nat → Nat → Int64)) := if ¬ (zv_X12_isScene (zz_u I 52 7 0) l1) = 0 then (if ¬ (l1 < 0 ∨ 18 ≤ l1.toNatClampNeg) then (if (I 53 l1.toNatClampNeg) = 2 then (rec 32 l1 (l1 + 1) (zz_u I 52 7 0) J) else (some ((-2), zz_u I 52 7 0, J))) else none) else (some ((-1), zz_u I 52 7 0, J))
def zb_X12_puts_32 (N : Nat) (rec : Nat → Int32 → Int32 → (Nat → Nat → Int32) → (Nat → Nat → Int64) → Option (Int32 × (Nat → Nat → Int32) × (Nat → Nat → Int64))) (l1 : Int32) (l2 : Int32) (I : Nat → Nat → Int32) (J : Nat → Nat → Int64) : Option (Int32 × (Nat → Nat → Int32) × (Nat → Nat → Int64)) := if (I 52 1) ≤ l2 then ((zf_X12_remember__53 N  I J).bind fun r2 => if ¬ (l1 < 0 ∨ 18 ≤ l1.toNatClampNeg) then (if ¬ (((7 * l1) + 0) < 0 ∨ 84 ≤ ((7 * l1) + 0).toNatClampNeg) then ((zf_X12_left N (zv_X12_playOf (zz_u r2.2.1 53 l1.toNatClampNeg 0) l1) (zz_u r2.2.1 53 l1.toNatClampNeg 0) J).bind fun r5 => some (r5.1, zz_u r2.2.1 53 l1.toNatClampNeg 0, J)) else none) else none) else (if ¬ (((7 * l2) + 0) < 0 ∨ 84 ≤ ((7 * l2) + 0).toNatClampNeg) then (if ¬ (((7 * l1) + 0) < 0 ∨ 84 ≤ ((7 * l1) + 0).toNatClampNeg) then (if ¬ (zv_X12_playOf I l2) = (zv_X12_playOf I l1) then (rec 32 l1 (l2 + 1) I J) else (if ¬ (l2 < 0 ∨ 18 ≤ l2.toNatClampNeg) then (if ¬ (I 53 l2.toNatClampNeg) = 1 then (rec 32 l1 (l2 + 1) I J) else (some ((-3), I, J))) else none)) else none) else none)
def zl_X12_puts (N : Nat) : Nat → Nat → Int32 → Int32 → (Nat → Nat → Int32) → (Nat → Nat → Int64) → Option (Int32 × (Nat → Nat → Int32) × (Nat → Nat → Int64))
  | 0 => fun _ _ _ _ _ => none
  | n + 1 => fun pc l1 l2 I J => if pc = 0 then zb_X12_puts_0 N (zl_X12_puts N n) l1 l2 I J else (if pc = 32 then zb_X12_puts_32 N (zl_X12_puts N n) l1 l2 I J else none)
def zf_X12_puts (N : Nat) (l1 : Int32) (I : Nat → Nat → Int32) (J : Nat → Nat → Int64) : Option (Int32 × (Nat → Nat → Int32) × (Nat → Nat → Int64)) := zl_X12_puts N N 0 l1 0 I J
theorem zq_X12_puts (F : zz_F) (d N : Nat) : ∀ n : Nat, (∀ (l1 : Int32) (l2 : Int32) (I : Nat → Nat → Int32) (J : Nat → Nat → Int64) (r : Int32 × (Nat → Nat → Int32) × (Nat → Nat → Int64)), zl_X12_puts N n 0 l1 l2 I J = some r → zz_run (d+4) 250 0 [some (.ref 52), some (.int (l1)), none] [] (zz_S F I J) (some (.int (r.1))) (zz_S F (r.2.1) (J))) ∧ (∀ (l1 : Int32) (l2 : Int32) (I : Nat → Nat → Int32) (J : Nat → Nat → Int64) (r : Int32 × (Nat → Nat → Int32) × (Nat → Nat → Int64)), zl_X12_puts N n 32 l1 l2 I J = some r → zz_run (d+4) 250 32 [some (.ref 52), some (.int (l1)), some (.int (l2))] [] (zz_S F I J) (some (.int (r.1))) (zz_S F (r.2.1) (J))) := by
  intro n
  induction n with
  | zero => exact ⟨fun _ _ _ _ _ h => zz_no h, fun _ _ _ _ _ h => zz_no h⟩
  | succ n ih =>
    obtain ⟨ih0, ih32⟩ := ih
    refine ⟨?_, ?_⟩
    · intro l1 l2 I J r hr
      replace hr : zb_X12_puts_0 N (zl_X12_puts N n) l1 l2 I J = some r := hr
      unfold zb_X12_puts_0 at hr
      refine zs_250_0 ?_
      repeat' first | refine And.intro rfl ?_ | refine And.intro (Or.inl rfl) ?_ | refine And.intro (Or.inr rfl) ?_ | refine And.intro (Nat.le_of_ble_eq_true rfl) ?_ | refine And.intro (And.intro rfl rfl) ?_ | exact rfl
      refine Exists.intro _ (Exists.intro _ (And.intro (zr_X12_isScene F (zz_u I 52 7 0) J (d+2) l1) ?_))
      repeat' first | refine And.intro rfl ?_ | refine And.intro (Or.inl rfl) ?_ | refine And.intro (Or.inr rfl) ?_ | refine And.intro (Nat.le_of_ble_eq_true rfl) ?_ | refine And.intro (And.intro rfl rfl) ?_ | exact rfl
      refine And.intro (fun (h1 : ¬ (zv_X12_isScene (zz_u I 52 7 0) l1) = 0) => ?_) (fun (h1 : ¬ (¬ (zv_X12_isScene (zz_u I 52 7 0) l1) = 0)) => ?_)
      · rw [if_pos h1] at hr
        refine zs_250_15 ?_
        repeat' first | refine And.intro rfl ?_ | refine And.intro (Or.inl rfl) ?_ | refine And.intro (Or.inr rfl) ?_ | refine And.intro (Nat.le_of_ble_eq_true rfl) ?_ | refine And.intro (And.intro rfl rfl) ?_ | exact rfl
        have g1 : ¬ (l1 < 0 ∨ 18 ≤ l1.toNatClampNeg) := zz_g hr
        replace hr := zz_gt hr
        refine And.intro (g1) ?_
        repeat' first | refine And.intro rfl ?_ | refine And.intro (Or.inl rfl) ?_ | refine And.intro (Or.inr rfl) ?_ | refine And.intro (Nat.le_of_ble_eq_true rfl) ?_ | refine And.intro (And.intro rfl rfl) ?_ | exact rfl
        refine And.intro (fun (h2 : (I 53 l1.toNatClampNeg) = 2) => ?_) (fun (h2 : ¬ ((I 53 l1.toNatClampNeg) = 2)) => ?_)
        · rw [if_pos h2] at hr
          refine zs_250_28 ?_
          repeat' first | refine And.intro rfl ?_ | refine And.intro (Or.inl rfl) ?_ | refine And.intro (Or.inr rfl) ?_ | refine And.intro (Nat.le_of_ble_eq_true rfl) ?_ | refine And.intro (And.intro rfl rfl) ?_ | exact rfl
          exact zz_wk [true, true, true] rfl (ih32 _ _ _ _ _ hr)
        · rw [if_neg h2] at hr
          repeat' first | refine And.intro rfl ?_ | refine And.intro (Or.inl rfl) ?_ | refine And.intro (Or.inr rfl) ?_ | refine And.intro (Nat.le_of_ble_eq_true rfl) ?_ | refine And.intro (And.intro rfl rfl) ?_ | exact rfl
          cases hr
          repeat' first | refine And.intro rfl ?_ | refine And.intro (Or.inl rfl) ?_ | refine And.intro (Or.inr rfl) ?_ | refine And.intro (Nat.le_of_ble_eq_true rfl) ?_ | refine And.intro (And.intro rfl rfl) ?_ | exact rfl
      · rw [if_neg h1] at hr
        repeat' first | refine And.intro rfl ?_ | refine And.intro (Or.inl rfl) ?_ | refine And.intro (Or.inr rfl) ?_ | refine And.intro (Nat.le_of_ble_eq_true rfl) ?_ | refine And.intro (And.intro rfl rfl) ?_ | exact rfl
        cases hr
        repeat' first | refine And.intro rfl ?_ | refine And.intro (Or.inl rfl) ?_ | refine And.intro (Or.inr rfl) ?_ | refine And.intro (Nat.le_of_ble_eq_true rfl) ?_ | refine And.intro (And.intro rfl rfl) ?_ | exact rfl
    · intro l1 l2 I J r hr
      replace hr : zb_X12_puts_32 N (zl_X12_puts N n) l1 l2 I J = some r := hr
      unfold zb_X12_puts_32 at hr
      refine zs_250_32 ?_
      repeat' first | refine And.intro rfl ?_ | refine And.intro (Or.inl rfl) ?_ | refine And.intro (Or.inr rfl) ?_ | refine And.intro (Nat.le_of_ble_eq_true rfl) ?_ | refine And.intro (And.intro rfl rfl) ?_ | exact rfl
      refine And.intro (fun (h3 : (I 52 1) ≤ l2) => ?_) (fun (h3 : ¬ ((I 52 1) ≤ l2)) => ?_)
      · rw [if_pos h3] at hr
        refine zs_250_72 ?_
        repeat' first | refine And.intro rfl ?_ | refine And.intro (Or.inl rfl) ?_ | refine And.intro (Or.inr rfl) ?_ | refine And.intro (Nat.le_of_ble_eq_true rfl) ?_ | refine And.intro (And.intro rfl rfl) ?_ | exact rfl
        obtain ⟨r2, cr2, hr⟩ := Option.bind_eq_some_iff.mp hr
        refine Exists.intro _ (Exists.intro _ (And.intro (zr_X12_remember__53 F I J (d+2) N  r2 cr2) ?_))
        repeat' first | refine And.intro rfl ?_ | refine And.intro (Or.inl rfl) ?_ | refine And.intro (Or.inr rfl) ?_ | refine And.intro (Nat.le_of_ble_eq_true rfl) ?_ | refine And.intro (And.intro rfl rfl) ?_ | exact rfl
        have g3 : ¬ (l1 < 0 ∨ 18 ≤ l1.toNatClampNeg) := zz_g hr
        replace hr := zz_gt hr
        refine And.intro (g3) ?_
        repeat' first | refine And.intro rfl ?_ | refine And.intro (Or.inl rfl) ?_ | refine And.intro (Or.inr rfl) ?_ | refine And.intro (Nat.le_of_ble_eq_true rfl) ?_ | refine And.intro (And.intro rfl rfl) ?_ | exact rfl
        have g4 : ¬ (((7 * l1) + 0) < 0 ∨ 84 ≤ ((7 * l1) + 0).toNatClampNeg) := zz_g hr
        replace hr := zz_gt hr
        refine Exists.intro _ (Exists.intro _ (And.intro (zr_X12_playOf F (zz_u r2.2.1 53 l1.toNatClampNeg 0) J (d+2) l1 g4) ?_))
        repeat' first | refine And.intro rfl ?_ | refine And.intro (Or.inl rfl) ?_ | refine And.intro (Or.inr rfl) ?_ | refine And.intro (Nat.le_of_ble_eq_true rfl) ?_ | refine And.intro (And.intro rfl rfl) ?_ | exact rfl
        obtain ⟨r5, cr5, hr⟩ := Option.bind_eq_some_iff.mp hr
        refine Exists.intro _ (Exists.intro _ (And.intro (zr_X12_left F (zz_u r2.2.1 53 l1.toNatClampNeg 0) J d N (zv_X12_playOf (zz_u r2.2.1 53 l1.toNatClampNeg 0) l1) r5 cr5) ?_))
        repeat' first | refine And.intro rfl ?_ | refine And.intro (Or.inl rfl) ?_ | refine And.intro (Or.inr rfl) ?_ | refine And.intro (Nat.le_of_ble_eq_true rfl) ?_ | refine And.intro (And.intro rfl rfl) ?_ | exact rfl
        cases hr
        repeat' first | refine And.intro rfl ?_ | refine And.intro (Or.inl rfl) ?_ | refine And.intro (Or.inr rfl) ?_ | refine And.intro (Nat.le_of_ble_eq_true rfl) ?_ | refine And.intro (And.intro rfl rfl) ?_ | exact rfl
      · rw [if_neg h3] at hr
        repeat' first | refine And.intro rfl ?_ | refine And.intro (Or.inl rfl) ?_ | refine And.intro (Or.inr rfl) ?_ | refine And.intro (Nat.le_of_ble_eq_true rfl) ?_ | refine And.intro (And.intro rfl rfl) ?_ | exact rfl
        have g6 : ¬ (((7 * l2) + 0) < 0 ∨ 84 ≤ ((7 * l2) + 0).toNatClampNeg) := zz_g hr
        replace hr := zz_gt hr
        refine Exists.intro _ (Exists.intro _ (And.intro (zr_X12_playOf F I J (d+2) l2 g6) ?_))
        repeat' first | refine And.intro rfl ?_ | refine And.intro (Or.inl rfl) ?_ | refine And.intro (Or.inr rfl) ?_ | refine And.intro (Nat.le_of_ble_eq_true rfl) ?_ | refine And.intro (And.intro rfl rfl) ?_ | exact rfl
        have g7 : ¬ (((7 * l1) + 0) < 0 ∨ 84 ≤ ((7 * l1) + 0).toNatClampNeg) := zz_g hr
        replace hr := zz_gt hr
        refine Exists.intro _ (Exists.intro _ (And.intro (zr_X12_playOf F I J (d+2) l1 g7) ?_))
        repeat' first | refine And.intro rfl ?_ | refine And.intro (Or.inl rfl) ?_ | refine And.intro (Or.inr rfl) ?_ | refine And.intro (Nat.le_of_ble_eq_true rfl) ?_ | refine And.intro (And.intro rfl rfl) ?_ | exact rfl
        refine And.intro (fun (h4 : ¬ (zv_X12_playOf I l2) = (zv_X12_playOf I l1)) => ?_) (fun (h4 : ¬ (¬ (zv_X12_playOf I l2) = (zv_X12_playOf I l1))) => ?_)
        · rw [if_pos h4] at hr
          refine zs_250_66 ?_
          repeat' first | refine And.intro rfl ?_ | refine And.intro (Or.inl rfl) ?_ | refine And.intro (Or.inr rfl) ?_ | refine And.intro (Nat.le_of_ble_eq_true rfl) ?_ | refine And.intro (And.intro rfl rfl) ?_ | exact rfl
          exact zz_wk [true, true, true] rfl (ih32 _ _ _ _ _ hr)
        · rw [if_neg h4] at hr
          repeat' first | refine And.intro rfl ?_ | refine And.intro (Or.inl rfl) ?_ | refine And.intro (Or.inr rfl) ?_ | refine And.intro (Nat.le_of_ble_eq_true rfl) ?_ | refine And.intro (And.intro rfl rfl) ?_ | exact rfl
          have g8 : ¬ (l2 < 0 ∨ 18 ≤ l2.toNatClampNeg) := zz_g hr
          replace hr := zz_gt hr
          refine And.intro (g8) ?_
          repeat' first | refine And.intro rfl ?_ | refine And.intro (Or.inl rfl) ?_ | refine And.intro (Or.inr rfl) ?_ | refine And.intro (Nat.le_of_ble_eq_true rfl) ?_ | refine And.intro (And.intro rfl rfl) ?_ | exact rfl
          refine And.intro (fun (h5 : ¬ (I 53 l2.toNatClampNeg) = 1) => ?_) (fun (h5 : ¬ (¬ (I 53 l2.toNatClampNeg) = 1)) => ?_)
          · rw [if_pos h5] at hr
            refine zs_250_66 ?_
            repeat' first | refine And.intro rfl ?_ | refine And.intro (Or.inl rfl) ?_ | refine And.intro (Or.inr rfl) ?_ | refine And.intro (Nat.le_of_ble_eq_true rfl) ?_ | refine And.intro (And.intro rfl rfl) ?_ | exact rfl
            exact zz_wk [true, true, true] rfl (ih32 _ _ _ _ _ hr)
          · rw [if_neg h5] at hr
            repeat' first | refine And.intro rfl ?_ | refine And.intro (Or.inl rfl) ?_ | refine And.intro (Or.inr rfl) ?_ | refine And.intro (Nat.le_of_ble_eq_true rfl) ?_ | refine And.intro (And.intro rfl rfl) ?_ | exact rfl
            cases hr
            repeat' first | refine And.intro rfl ?_ | refine And.intro (Or.inl rfl) ?_ | refine And.intro (Or.inr rfl) ?_ | refine And.intro (Nat.le_of_ble_eq_true rfl) ?_ | refine And.intro (And.intro rfl rfl) ?_ | exact rfl
theorem zr_X12_puts (F : zz_F) (I : Nat → Nat → Int32) (J : Nat → Nat → Int64) (d N : Nat) (l1 : Int32) (r : Int32 × (Nat → Nat → Int32) × (Nat → Nat → Int64)) (h : zf_X12_puts N l1 I J = some r) : zz_run (d+4) 250 0 [some (.ref 52), some (.int (l1)), none] [] (zz_S F I J) (some (.int (r.1))) (zz_S F (r.2.1) (J)) := (zq_X12_puts F d N N).1 l1 0 I J r h
def zb_X12_pause_0 (N : Nat) (rec : Nat → Int32 → (Nat → Nat → Int32) → (Nat → Nat → Int64) → Option (Int32 × (Nat → Nat → Int32) × (Nat → Nat → Int64))) (l1 : Int32) (I : Nat → Nat → Int32) (J : Nat → Nat → Int64) : Option (Int32 × (Nat → Nat → Int32) × (Nat → Nat → Int64)) := if ¬ (zv_X12_in l1 0 99) = 0 then (if l1 ≤ 0 then (some ((I 53 12) + l1, zz_u (zz_u I 52 7 0) 53 12 ((I 53 12) + l1), J)) else ((zf_X12_remember__53 N  (zz_u I 52 7 0) J).bind fun r1 => some ((r1.2.1 53 12) + l1, zz_u r1.2.1 53 12 ((r1.2.1 53 12) + l1), J))) else (some ((-1), zz_u I 52 7 0, J))
def zl_X12_pause (N : Nat) : Nat → Nat → Int32 → (Nat → Nat → Int32) → (Nat → Nat → Int64) → Option (Int32 × (Nat → Nat → Int32) × (Nat → Nat → Int64))
  | 0 => fun _ _ _ _ => none
  | n + 1 => fun pc l1 I J => if pc = 0 then zb_X12_pause_0 N (zl_X12_pause N n) l1 I J else none
def zf_X12_pause (N : Nat) (l1 : Int32) (I : Nat → Nat → Int32) (J : Nat → Nat → Int64) : Option (Int32 × (Nat → Nat → Int32) × (Nat → Nat → Int64)) := zl_X12_pause N N 0 l1 I J
theorem zq_X12_pause (F : zz_F) (d N : Nat) : ∀ n : Nat, (∀ (l1 : Int32) (I : Nat → Nat → Int32) (J : Nat → Nat → Int64) (r : Int32 × (Nat → Nat → Int32) × (Nat → Nat → Int64)), zl_X12_pause N n 0 l1 I J = some r → zz_run (d+2) 251 0 [some (.ref 52), some (.int (l1))] [] (zz_S F I J) (some (.int (r.1))) (zz_S F (r.2.1) (J))) := by
  intro n
  induction n with
  | zero => exact fun _ _ _ _ h => zz_no h
  | succ n ih =>
    have ih0 := ih
    skip
    · intro l1 I J r hr
      replace hr : zb_X12_pause_0 N (zl_X12_pause N n) l1 I J = some r := hr
      unfold zb_X12_pause_0 at hr
      refine zs_251_0 ?_
      repeat' first | refine And.intro rfl ?_ | refine And.intro (Or.inl rfl) ?_ | refine And.intro (Or.inr rfl) ?_ | refine And.intro (Nat.le_of_ble_eq_true rfl) ?_ | refine And.intro (And.intro rfl rfl) ?_ | exact rfl
      refine Exists.intro _ (Exists.intro _ (And.intro (zr_X12_in F (zz_u I 52 7 0) J (d+1) l1 0 99) ?_))
      repeat' first | refine And.intro rfl ?_ | refine And.intro (Or.inl rfl) ?_ | refine And.intro (Or.inr rfl) ?_ | refine And.intro (Nat.le_of_ble_eq_true rfl) ?_ | refine And.intro (And.intro rfl rfl) ?_ | exact rfl
      refine And.intro (fun (h1 : ¬ (zv_X12_in l1 0 99) = 0) => ?_) (fun (h1 : ¬ (¬ (zv_X12_in l1 0 99) = 0)) => ?_)
      · rw [if_pos h1] at hr
        refine zs_251_17 ?_
        repeat' first | refine And.intro rfl ?_ | refine And.intro (Or.inl rfl) ?_ | refine And.intro (Or.inr rfl) ?_ | refine And.intro (Nat.le_of_ble_eq_true rfl) ?_ | refine And.intro (And.intro rfl rfl) ?_ | exact rfl
        refine And.intro (fun (h2 : l1 ≤ 0) => ?_) (fun (h2 : ¬ (l1 ≤ 0)) => ?_)
        · rw [if_pos h2] at hr
          refine zs_251_29 ?_
          repeat' first | refine And.intro rfl ?_ | refine And.intro (Or.inl rfl) ?_ | refine And.intro (Or.inr rfl) ?_ | refine And.intro (Nat.le_of_ble_eq_true rfl) ?_ | refine And.intro (And.intro rfl rfl) ?_ | exact rfl
          refine And.intro (zz_vk (k := 12) rfl rfl) ?_
          repeat' first | refine And.intro rfl ?_ | refine And.intro (Or.inl rfl) ?_ | refine And.intro (Or.inr rfl) ?_ | refine And.intro (Nat.le_of_ble_eq_true rfl) ?_ | refine And.intro (And.intro rfl rfl) ?_ | exact rfl
          refine And.intro (zz_vk (k := 12) rfl rfl) ?_
          repeat' first | refine And.intro rfl ?_ | refine And.intro (Or.inl rfl) ?_ | refine And.intro (Or.inr rfl) ?_ | refine And.intro (Nat.le_of_ble_eq_true rfl) ?_ | refine And.intro (And.intro rfl rfl) ?_ | exact rfl
          refine And.intro (zz_vk (k := 12) rfl rfl) ?_
          repeat' first | refine And.intro rfl ?_ | refine And.intro (Or.inl rfl) ?_ | refine And.intro (Or.inr rfl) ?_ | refine And.intro (Nat.le_of_ble_eq_true rfl) ?_ | refine And.intro (And.intro rfl rfl) ?_ | exact rfl
          cases hr
          repeat' first | refine And.intro rfl ?_ | refine And.intro (Or.inl rfl) ?_ | refine And.intro (Or.inr rfl) ?_ | refine And.intro (Nat.le_of_ble_eq_true rfl) ?_ | refine And.intro (And.intro rfl rfl) ?_ | exact rfl
        · rw [if_neg h2] at hr
          repeat' first | refine And.intro rfl ?_ | refine And.intro (Or.inl rfl) ?_ | refine And.intro (Or.inr rfl) ?_ | refine And.intro (Nat.le_of_ble_eq_true rfl) ?_ | refine And.intro (And.intro rfl rfl) ?_ | exact rfl
          obtain ⟨r1, cr1, hr⟩ := Option.bind_eq_some_iff.mp hr
          refine Exists.intro _ (Exists.intro _ (And.intro (zr_X12_remember__53 F (zz_u I 52 7 0) J d N  r1 cr1) ?_))
          repeat' first | refine And.intro rfl ?_ | refine And.intro (Or.inl rfl) ?_ | refine And.intro (Or.inr rfl) ?_ | refine And.intro (Nat.le_of_ble_eq_true rfl) ?_ | refine And.intro (And.intro rfl rfl) ?_ | exact rfl
          refine zs_251_29 ?_
          repeat' first | refine And.intro rfl ?_ | refine And.intro (Or.inl rfl) ?_ | refine And.intro (Or.inr rfl) ?_ | refine And.intro (Nat.le_of_ble_eq_true rfl) ?_ | refine And.intro (And.intro rfl rfl) ?_ | exact rfl
          refine And.intro (zz_vk (k := 12) rfl rfl) ?_
          repeat' first | refine And.intro rfl ?_ | refine And.intro (Or.inl rfl) ?_ | refine And.intro (Or.inr rfl) ?_ | refine And.intro (Nat.le_of_ble_eq_true rfl) ?_ | refine And.intro (And.intro rfl rfl) ?_ | exact rfl
          refine And.intro (zz_vk (k := 12) rfl rfl) ?_
          repeat' first | refine And.intro rfl ?_ | refine And.intro (Or.inl rfl) ?_ | refine And.intro (Or.inr rfl) ?_ | refine And.intro (Nat.le_of_ble_eq_true rfl) ?_ | refine And.intro (And.intro rfl rfl) ?_ | exact rfl
          refine And.intro (zz_vk (k := 12) rfl rfl) ?_
          repeat' first | refine And.intro rfl ?_ | refine And.intro (Or.inl rfl) ?_ | refine And.intro (Or.inr rfl) ?_ | refine And.intro (Nat.le_of_ble_eq_true rfl) ?_ | refine And.intro (And.intro rfl rfl) ?_ | exact rfl
          cases hr
          repeat' first | refine And.intro rfl ?_ | refine And.intro (Or.inl rfl) ?_ | refine And.intro (Or.inr rfl) ?_ | refine And.intro (Nat.le_of_ble_eq_true rfl) ?_ | refine And.intro (And.intro rfl rfl) ?_ | exact rfl
      · rw [if_neg h1] at hr
        repeat' first | refine And.intro rfl ?_ | refine And.intro (Or.inl rfl) ?_ | refine And.intro (Or.inr rfl) ?_ | refine And.intro (Nat.le_of_ble_eq_true rfl) ?_ | refine And.intro (And.intro rfl rfl) ?_ | exact rfl
        cases hr
        repeat' first | refine And.intro rfl ?_ | refine And.intro (Or.inl rfl) ?_ | refine And.intro (Or.inr rfl) ?_ | refine And.intro (Nat.le_of_ble_eq_true rfl) ?_ | refine And.intro (And.intro rfl rfl) ?_ | exact rfl
theorem zr_X12_pause (F : zz_F) (I : Nat → Nat → Int32) (J : Nat → Nat → Int64) (d N : Nat) (l1 : Int32) (r : Int32 × (Nat → Nat → Int32) × (Nat → Nat → Int64)) (h : zf_X12_pause N l1 I J = some r) : zz_run (d+2) 251 0 [some (.ref 52), some (.int (l1))] [] (zz_S F I J) (some (.int (r.1))) (zz_S F (r.2.1) (J)) := (zq_X12_pause F d N N) l1 I J r h
def zb_X12_undo_0 (N : Nat) (rec : Nat → Int32 → (Nat → Nat → Int32) → (Nat → Nat → Int64) → Option (Int32 × (Nat → Nat → Int32) × (Nat → Nat → Int64))) (l1 : Int32) (I : Nat → Nat → Int32) (J : Nat → Nat → Int64) : Option (Int32 × (Nat → Nat → Int32) × (Nat → Nat → Int64)) := if ¬ (I 52 20) = 0 then (rec 26 0 (zz_u (zz_u I 52 7 0) 52 20 ((I 52 20) - 1)) J) else (some ((-1), zz_u I 52 7 0, J))
def zb_X12_undo_26 (N : Nat) (rec : Nat → Int32 → (Nat → Nat → Int32) → (Nat → Nat → Int64) → Option (Int32 × (Nat → Nat → Int32) × (Nat → Nat → Int64))) (l1 : Int32) (I : Nat → Nat → Int32) (J : Nat → Nat → Int64) : Option (Int32 × (Nat → Nat → Int32) × (Nat → Nat → Int64)) := if 18 ≤ l1 then (some (I 52 20, I, J)) else (if ¬ (((18 * (I 52 20)) + l1) < 0 ∨ 216 ≤ ((18 * (I 52 20)) + l1).toNatClampNeg) then (if ¬ (l1 < 0 ∨ 18 ≤ l1.toNatClampNeg) then (rec 26 (l1 + 1) (zz_u I 53 l1.toNatClampNeg (I 61 (((18 * (I 52 20)) + l1).toNatClampNeg))) J) else none) else none)
def zl_X12_undo (N : Nat) : Nat → Nat → Int32 → (Nat → Nat → Int32) → (Nat → Nat → Int64) → Option (Int32 × (Nat → Nat → Int32) × (Nat → Nat → Int64))
  | 0 => fun _ _ _ _ => none
  | n + 1 => fun pc l1 I J => if pc = 0 then zb_X12_undo_0 N (zl_X12_undo N n) l1 I J else (if pc = 26 then zb_X12_undo_26 N (zl_X12_undo N n) l1 I J else none)
def zf_X12_undo (N : Nat)  (I : Nat → Nat → Int32) (J : Nat → Nat → Int64) : Option (Int32 × (Nat → Nat → Int32) × (Nat → Nat → Int64)) := zl_X12_undo N N 0 0 I J
theorem zq_X12_undo (F : zz_F) (d N : Nat) : ∀ n : Nat, (∀ (l1 : Int32) (I : Nat → Nat → Int32) (J : Nat → Nat → Int64) (r : Int32 × (Nat → Nat → Int32) × (Nat → Nat → Int64)), zl_X12_undo N n 0 l1 I J = some r → zz_run (d) 255 0 [some (.ref 52), none] [] (zz_S F I J) (some (.int (r.1))) (zz_S F (r.2.1) (J))) ∧ (∀ (l1 : Int32) (I : Nat → Nat → Int32) (J : Nat → Nat → Int64) (r : Int32 × (Nat → Nat → Int32) × (Nat → Nat → Int64)), zl_X12_undo N n 26 l1 I J = some r → zz_run (d) 255 26 [some (.ref 52), some (.int (l1))] [] (zz_S F I J) (some (.int (r.1))) (zz_S F (r.2.1) (J))) := by
  intro n
  induction n with
  | zero => exact ⟨fun _ _ _ _ h => zz_no h, fun _ _ _ _ h => zz_no h⟩
  | succ n ih =>
    obtain ⟨ih0, ih26⟩ := ih
    refine ⟨?_, ?_⟩
    · intro l1 I J r hr
      replace hr : zb_X12_undo_0 N (zl_X12_undo N n) l1 I J = some r := hr
      unfold zb_X12_undo_0 at hr
      refine zs_255_0 ?_
      repeat' first | refine And.intro rfl ?_ | refine And.intro (Or.inl rfl) ?_ | refine And.intro (Or.inr rfl) ?_ | refine And.intro (Nat.le_of_ble_eq_true rfl) ?_ | refine And.intro (And.intro rfl rfl) ?_ | exact rfl
      refine And.intro (fun (h1 : ¬ (I 52 20) = 0) => ?_) (fun (h1 : ¬ (¬ (I 52 20) = 0)) => ?_)
      · rw [if_pos h1] at hr
        refine zs_255_14 ?_
        repeat' first | refine And.intro rfl ?_ | refine And.intro (Or.inl rfl) ?_ | refine And.intro (Or.inr rfl) ?_ | refine And.intro (Nat.le_of_ble_eq_true rfl) ?_ | refine And.intro (And.intro rfl rfl) ?_ | exact rfl
        exact zz_wk [true, true] rfl (ih26 _ _ _ _ hr)
      · rw [if_neg h1] at hr
        repeat' first | refine And.intro rfl ?_ | refine And.intro (Or.inl rfl) ?_ | refine And.intro (Or.inr rfl) ?_ | refine And.intro (Nat.le_of_ble_eq_true rfl) ?_ | refine And.intro (And.intro rfl rfl) ?_ | exact rfl
        cases hr
        repeat' first | refine And.intro rfl ?_ | refine And.intro (Or.inl rfl) ?_ | refine And.intro (Or.inr rfl) ?_ | refine And.intro (Nat.le_of_ble_eq_true rfl) ?_ | refine And.intro (And.intro rfl rfl) ?_ | exact rfl
    · intro l1 I J r hr
      replace hr : zb_X12_undo_26 N (zl_X12_undo N n) l1 I J = some r := hr
      unfold zb_X12_undo_26 at hr
      refine zs_255_26 ?_
      repeat' first | refine And.intro rfl ?_ | refine And.intro (Or.inl rfl) ?_ | refine And.intro (Or.inr rfl) ?_ | refine And.intro (Nat.le_of_ble_eq_true rfl) ?_ | refine And.intro (And.intro rfl rfl) ?_ | exact rfl
      refine And.intro (fun (h2 : 18 ≤ l1) => ?_) (fun (h2 : ¬ (18 ≤ l1)) => ?_)
      · rw [if_pos h2] at hr
        refine zs_255_58 ?_
        repeat' first | refine And.intro rfl ?_ | refine And.intro (Or.inl rfl) ?_ | refine And.intro (Or.inr rfl) ?_ | refine And.intro (Nat.le_of_ble_eq_true rfl) ?_ | refine And.intro (And.intro rfl rfl) ?_ | exact rfl
        cases hr
        repeat' first | refine And.intro rfl ?_ | refine And.intro (Or.inl rfl) ?_ | refine And.intro (Or.inr rfl) ?_ | refine And.intro (Nat.le_of_ble_eq_true rfl) ?_ | refine And.intro (And.intro rfl rfl) ?_ | exact rfl
      · rw [if_neg h2] at hr
        repeat' first | refine And.intro rfl ?_ | refine And.intro (Or.inl rfl) ?_ | refine And.intro (Or.inr rfl) ?_ | refine And.intro (Nat.le_of_ble_eq_true rfl) ?_ | refine And.intro (And.intro rfl rfl) ?_ | exact rfl
        have g1 : ¬ (((18 * (I 52 20)) + l1) < 0 ∨ 216 ≤ ((18 * (I 52 20)) + l1).toNatClampNeg) := zz_g hr
        replace hr := zz_gt hr
        refine And.intro (g1) ?_
        repeat' first | refine And.intro rfl ?_ | refine And.intro (Or.inl rfl) ?_ | refine And.intro (Or.inr rfl) ?_ | refine And.intro (Nat.le_of_ble_eq_true rfl) ?_ | refine And.intro (And.intro rfl rfl) ?_ | exact rfl
        have g2 : ¬ (l1 < 0 ∨ 18 ≤ l1.toNatClampNeg) := zz_g hr
        replace hr := zz_gt hr
        refine And.intro (g2) ?_
        repeat' first | refine And.intro rfl ?_ | refine And.intro (Or.inl rfl) ?_ | refine And.intro (Or.inr rfl) ?_ | refine And.intro (Nat.le_of_ble_eq_true rfl) ?_ | refine And.intro (And.intro rfl rfl) ?_ | exact rfl
        exact zz_wk [true, true] rfl (ih26 _ _ _ _ hr)
theorem zr_X12_undo (F : zz_F) (I : Nat → Nat → Int32) (J : Nat → Nat → Int64) (d N : Nat)  (r : Int32 × (Nat → Nat → Int32) × (Nat → Nat → Int64)) (h : zf_X12_undo N  I J = some r) : zz_run (d) 255 0 [some (.ref 52), none] [] (zz_S F I J) (some (.int (r.1))) (zz_S F (r.2.1) (J)) := (zq_X12_undo F d N N).1 0 I J r h
def zb_X12_endWeave_0 (N : Nat) (rec : Nat → Int32 → Int32 → Int32 → (Nat → Nat → Int32) → (Nat → Nat → Int64) → Option (Int32 × (Nat → Nat → Int32) × (Nat → Nat → Int64))) (l1 : Int32) (l2 : Int32) (l3 : Int32) (I : Nat → Nat → Int32) (J : Nat → Nat → Int64) : Option (Int32 × (Nat → Nat → Int32) × (Nat → Nat → Int64)) := if l1 ≤ 0 then (rec 52 l1 l2 0 (zz_u (zz_u I 52 28 ((I 52 28) + 1)) 52 30 (zz_max (I 52 30) l2)) J) else (if ¬ ((I 65 0) < 0 ∨ 2 ≤ (I 65 0).toNatClampNeg) then (rec 52 l1 l2 0 (zz_u (zz_u (zz_u I 52 28 ((I 52 28) + 1)) 52 30 (zz_max (I 52 30) l2)) 69 ((I 65 0).toNatClampNeg) (zz_min (I 69 ((I 65 0).toNatClampNeg)) l2)) J) else none)
def zb_X12_endWeave_52 (N : Nat) (rec : Nat → Int32 → Int32 → Int32 → (Nat → Nat → Int32) → (Nat → Nat → Int64) → Option (Int32 × (Nat → Nat → Int32) × (Nat → Nat → Int64))) (l1 : Int32) (l2 : Int32) (l3 : Int32) (I : Nat → Nat → Int32) (J : Nat → Nat → Int64) : Option (Int32 × (Nat → Nat → Int32) × (Nat → Nat → Int64)) := if ¬ (I 52 35) = 0 then (rec 119 l1 l2 0 I J) else (if (I 72 0) < (I 67 0) then (rec 119 l1 l2 0 I J) else (if (I 72 1) < (I 67 1) then (rec 119 l1 l2 0 I J) else (rec 96 l1 l2 0 (zz_u I 52 35 1) J)))
def zb_X12_endWeave_96 (N : Nat) (rec : Nat → Int32 → Int32 → Int32 → (Nat → Nat → Int32) → (Nat → Nat → Int64) → Option (Int32 × (Nat → Nat → Int32) × (Nat → Nat → Int64))) (l1 : Int32) (l2 : Int32) (l3 : Int32) (I : Nat → Nat → Int32) (J : Nat → Nat → Int64) : Option (Int32 × (Nat → Nat → Int32) × (Nat → Nat → Int64)) := if l1 ≤ l3 then (rec 119 l1 l2 0 I J) else (if ¬ (l3 < 0 ∨ 12 ≤ l3.toNatClampNeg) then (rec 96 l1 l2 (l3 + 1) (zz_u I 73 l3.toNatClampNeg (I 65 l3.toNatClampNeg)) J) else none)
def zb_X12_endWeave_119 (N : Nat) (rec : Nat → Int32 → Int32 → Int32 → (Nat → Nat → Int32) → (Nat → Nat → Int64) → Option (Int32 × (Nat → Nat → Int32) × (Nat → Nat → Int64))) (l1 : Int32) (l2 : Int32) (l3 : Int32) (I : Nat → Nat → Int32) (J : Nat → Nat → Int64) : Option (Int32 × (Nat → Nat → Int32) × (Nat → Nat → Int64)) := if l2 < (I 52 29) then (rec 135 l1 0 0 (zz_u I 52 29 l2) J) else (some (0, I, J))
def zb_X12_endWeave_135 (N : Nat) (rec : Nat → Int32 → Int32 → Int32 → (Nat → Nat → Int32) → (Nat → Nat → Int64) → Option (Int32 × (Nat → Nat → Int32) × (Nat → Nat → Int64))) (l1 : Int32) (l2 : Int32) (l3 : Int32) (I : Nat → Nat → Int32) (J : Nat → Nat → Int64) : Option (Int32 × (Nat → Nat → Int32) × (Nat → Nat → Int64)) := if l1 ≤ l3 then (some (0, I, J)) else (if ¬ (l3 < 0 ∨ 12 ≤ l3.toNatClampNeg) then (rec 135 l1 0 (l3 + 1) (zz_u I 66 l3.toNatClampNeg (I 65 l3.toNatClampNeg)) J) else none)
def zl_X12_endWeave (N : Nat) : Nat → Nat → Int32 → Int32 → Int32 → (Nat → Nat → Int32) → (Nat → Nat → Int64) → Option (Int32 × (Nat → Nat → Int32) × (Nat → Nat → Int64))
  | 0 => fun _ _ _ _ _ _ => none
  | n + 1 => fun pc l1 l2 l3 I J => if pc = 0 then zb_X12_endWeave_0 N (zl_X12_endWeave N n) l1 l2 l3 I J else (if pc = 52 then zb_X12_endWeave_52 N (zl_X12_endWeave N n) l1 l2 l3 I J else (if pc = 96 then zb_X12_endWeave_96 N (zl_X12_endWeave N n) l1 l2 l3 I J else (if pc = 119 then zb_X12_endWeave_119 N (zl_X12_endWeave N n) l1 l2 l3 I J else (if pc = 135 then zb_X12_endWeave_135 N (zl_X12_endWeave N n) l1 l2 l3 I J else none))))
def zf_X12_endWeave (N : Nat) (l1 : Int32) (l2 : Int32) (I : Nat → Nat → Int32) (J : Nat → Nat → Int64) : Option (Int32 × (Nat → Nat → Int32) × (Nat → Nat → Int64)) := zl_X12_endWeave N N 0 l1 l2 0 I J
theorem zq_X12_endWeave (F : zz_F) (d N : Nat) : ∀ n : Nat, (∀ (l1 : Int32) (l2 : Int32) (l3 : Int32) (I : Nat → Nat → Int32) (J : Nat → Nat → Int64) (r : Int32 × (Nat → Nat → Int32) × (Nat → Nat → Int64)), zl_X12_endWeave N n 0 l1 l2 l3 I J = some r → zz_run (d+1) 258 0 [some (.ref 52), some (.int (l1)), some (.int (l2)), none] [] (zz_S F I J) none (zz_S F (r.2.1) (J))) ∧ (∀ (l1 : Int32) (l2 : Int32) (l3 : Int32) (I : Nat → Nat → Int32) (J : Nat → Nat → Int64) (r : Int32 × (Nat → Nat → Int32) × (Nat → Nat → Int64)), zl_X12_endWeave N n 52 l1 l2 l3 I J = some r → zz_run (d+1) 258 52 [some (.ref 52), some (.int (l1)), some (.int (l2)), none] [] (zz_S F I J) none (zz_S F (r.2.1) (J))) ∧ (∀ (l1 : Int32) (l2 : Int32) (l3 : Int32) (I : Nat → Nat → Int32) (J : Nat → Nat → Int64) (r : Int32 × (Nat → Nat → Int32) × (Nat → Nat → Int64)), zl_X12_endWeave N n 96 l1 l2 l3 I J = some r → zz_run (d+1) 258 96 [some (.ref 52), some (.int (l1)), some (.int (l2)), some (.int (l3))] [] (zz_S F I J) none (zz_S F (r.2.1) (J))) ∧ (∀ (l1 : Int32) (l2 : Int32) (l3 : Int32) (I : Nat → Nat → Int32) (J : Nat → Nat → Int64) (r : Int32 × (Nat → Nat → Int32) × (Nat → Nat → Int64)), zl_X12_endWeave N n 119 l1 l2 l3 I J = some r → zz_run (d+1) 258 119 [some (.ref 52), some (.int (l1)), some (.int (l2)), none] [] (zz_S F I J) none (zz_S F (r.2.1) (J))) ∧ (∀ (l1 : Int32) (l2 : Int32) (l3 : Int32) (I : Nat → Nat → Int32) (J : Nat → Nat → Int64) (r : Int32 × (Nat → Nat → Int32) × (Nat → Nat → Int64)), zl_X12_endWeave N n 135 l1 l2 l3 I J = some r → zz_run (d+1) 258 135 [some (.ref 52), some (.int (l1)), none, some (.int (l3))] [] (zz_S F I J) none (zz_S F (r.2.1) (J))) := by
  intro n
  induction n with
  | zero => exact ⟨fun _ _ _ _ _ _ h => zz_no h, fun _ _ _ _ _ _ h => zz_no h, fun _ _ _ _ _ _ h => zz_no h, fun _ _ _ _ _ _ h => zz_no h, fun _ _ _ _ _ _ h => zz_no h⟩
  | succ n ih =>
    obtain ⟨ih0, ih52, ih96, ih119, ih135⟩ := ih
    refine ⟨?_, ?_, ?_, ?_, ?_⟩
    · intro l1 l2 l3 I J r hr
      replace hr : zb_X12_endWeave_0 N (zl_X12_endWeave N n) l1 l2 l3 I J = some r := hr
      unfold zb_X12_endWeave_0 at hr
      refine zs_258_0 ?_
      repeat' first | refine And.intro rfl ?_ | refine And.intro (Or.inl rfl) ?_ | refine And.intro (Or.inr rfl) ?_ | refine And.intro (Nat.le_of_ble_eq_true rfl) ?_ | refine And.intro (And.intro rfl rfl) ?_ | exact rfl
      refine Exists.intro _ (Exists.intro _ (And.intro (zr_max F (zz_u I 52 28 ((I 52 28) + 1)) J d (I 52 30) l2) ?_))
      repeat' first | refine And.intro rfl ?_ | refine And.intro (Or.inl rfl) ?_ | refine And.intro (Or.inr rfl) ?_ | refine And.intro (Nat.le_of_ble_eq_true rfl) ?_ | refine And.intro (And.intro rfl rfl) ?_ | exact rfl
      refine And.intro (fun (h1 : l1 ≤ 0) => ?_) (fun (h1 : ¬ (l1 ≤ 0)) => ?_)
      · rw [if_pos h1] at hr
        exact zz_wk [true, true, true, false] rfl (ih52 _ _ _ _ _ _ hr)
      · rw [if_neg h1] at hr
        repeat' first | refine And.intro rfl ?_ | refine And.intro (Or.inl rfl) ?_ | refine And.intro (Or.inr rfl) ?_ | refine And.intro (Nat.le_of_ble_eq_true rfl) ?_ | refine And.intro (And.intro rfl rfl) ?_ | exact rfl
        refine And.intro (zz_vk (k := 0) rfl rfl) ?_
        repeat' first | refine And.intro rfl ?_ | refine And.intro (Or.inl rfl) ?_ | refine And.intro (Or.inr rfl) ?_ | refine And.intro (Nat.le_of_ble_eq_true rfl) ?_ | refine And.intro (And.intro rfl rfl) ?_ | exact rfl
        refine And.intro (zz_vk (k := 0) rfl rfl) ?_
        repeat' first | refine And.intro rfl ?_ | refine And.intro (Or.inl rfl) ?_ | refine And.intro (Or.inr rfl) ?_ | refine And.intro (Nat.le_of_ble_eq_true rfl) ?_ | refine And.intro (And.intro rfl rfl) ?_ | exact rfl
        have g1 : ¬ ((I 65 0) < 0 ∨ 2 ≤ (I 65 0).toNatClampNeg) := zz_g hr
        replace hr := zz_gt hr
        refine And.intro (g1) ?_
        repeat' first | refine And.intro rfl ?_ | refine And.intro (Or.inl rfl) ?_ | refine And.intro (Or.inr rfl) ?_ | refine And.intro (Nat.le_of_ble_eq_true rfl) ?_ | refine And.intro (And.intro rfl rfl) ?_ | exact rfl
        refine Exists.intro _ (Exists.intro _ (And.intro (zr_min F (zz_u (zz_u I 52 28 ((I 52 28) + 1)) 52 30 (zz_max (I 52 30) l2)) J d (I 69 ((I 65 0).toNatClampNeg)) l2) ?_))
        repeat' first | refine And.intro rfl ?_ | refine And.intro (Or.inl rfl) ?_ | refine And.intro (Or.inr rfl) ?_ | refine And.intro (Nat.le_of_ble_eq_true rfl) ?_ | refine And.intro (And.intro rfl rfl) ?_ | exact rfl
        refine And.intro (g1) ?_
        repeat' first | refine And.intro rfl ?_ | refine And.intro (Or.inl rfl) ?_ | refine And.intro (Or.inr rfl) ?_ | refine And.intro (Nat.le_of_ble_eq_true rfl) ?_ | refine And.intro (And.intro rfl rfl) ?_ | exact rfl
        exact zz_wk [true, true, true, false] rfl (ih52 _ _ _ _ _ _ hr)
    · intro l1 l2 l3 I J r hr
      replace hr : zb_X12_endWeave_52 N (zl_X12_endWeave N n) l1 l2 l3 I J = some r := hr
      unfold zb_X12_endWeave_52 at hr
      refine zs_258_52 ?_
      repeat' first | refine And.intro rfl ?_ | refine And.intro (Or.inl rfl) ?_ | refine And.intro (Or.inr rfl) ?_ | refine And.intro (Nat.le_of_ble_eq_true rfl) ?_ | refine And.intro (And.intro rfl rfl) ?_ | exact rfl
      refine And.intro (fun (h2 : ¬ (I 52 35) = 0) => ?_) (fun (h2 : ¬ (¬ (I 52 35) = 0)) => ?_)
      · rw [if_pos h2] at hr
        exact zz_wk [true, true, true, false] rfl (ih119 _ _ _ _ _ _ hr)
      · rw [if_neg h2] at hr
        repeat' first | refine And.intro rfl ?_ | refine And.intro (Or.inl rfl) ?_ | refine And.intro (Or.inr rfl) ?_ | refine And.intro (Nat.le_of_ble_eq_true rfl) ?_ | refine And.intro (And.intro rfl rfl) ?_ | exact rfl
        refine And.intro (zz_vk (k := 0) rfl rfl) ?_
        repeat' first | refine And.intro rfl ?_ | refine And.intro (Or.inl rfl) ?_ | refine And.intro (Or.inr rfl) ?_ | refine And.intro (Nat.le_of_ble_eq_true rfl) ?_ | refine And.intro (And.intro rfl rfl) ?_ | exact rfl
        refine And.intro (zz_vk (k := 0) rfl rfl) ?_
        repeat' first | refine And.intro rfl ?_ | refine And.intro (Or.inl rfl) ?_ | refine And.intro (Or.inr rfl) ?_ | refine And.intro (Nat.le_of_ble_eq_true rfl) ?_ | refine And.intro (And.intro rfl rfl) ?_ | exact rfl
        refine And.intro (fun (h3 : (I 72 0) < (I 67 0)) => ?_) (fun (h3 : ¬ ((I 72 0) < (I 67 0))) => ?_)
        · rw [if_pos h3] at hr
          exact zz_wk [true, true, true, false] rfl (ih119 _ _ _ _ _ _ hr)
        · rw [if_neg h3] at hr
          repeat' first | refine And.intro rfl ?_ | refine And.intro (Or.inl rfl) ?_ | refine And.intro (Or.inr rfl) ?_ | refine And.intro (Nat.le_of_ble_eq_true rfl) ?_ | refine And.intro (And.intro rfl rfl) ?_ | exact rfl
          refine And.intro (zz_vk (k := 1) rfl rfl) ?_
          repeat' first | refine And.intro rfl ?_ | refine And.intro (Or.inl rfl) ?_ | refine And.intro (Or.inr rfl) ?_ | refine And.intro (Nat.le_of_ble_eq_true rfl) ?_ | refine And.intro (And.intro rfl rfl) ?_ | exact rfl
          refine And.intro (zz_vk (k := 1) rfl rfl) ?_
          repeat' first | refine And.intro rfl ?_ | refine And.intro (Or.inl rfl) ?_ | refine And.intro (Or.inr rfl) ?_ | refine And.intro (Nat.le_of_ble_eq_true rfl) ?_ | refine And.intro (And.intro rfl rfl) ?_ | exact rfl
          refine And.intro (fun (h4 : (I 72 1) < (I 67 1)) => ?_) (fun (h4 : ¬ ((I 72 1) < (I 67 1))) => ?_)
          · rw [if_pos h4] at hr
            exact zz_wk [true, true, true, false] rfl (ih119 _ _ _ _ _ _ hr)
          · rw [if_neg h4] at hr
            repeat' first | refine And.intro rfl ?_ | refine And.intro (Or.inl rfl) ?_ | refine And.intro (Or.inr rfl) ?_ | refine And.intro (Nat.le_of_ble_eq_true rfl) ?_ | refine And.intro (And.intro rfl rfl) ?_ | exact rfl
            exact zz_wk [true, true, true, true] rfl (ih96 _ _ _ _ _ _ hr)
    · intro l1 l2 l3 I J r hr
      replace hr : zb_X12_endWeave_96 N (zl_X12_endWeave N n) l1 l2 l3 I J = some r := hr
      unfold zb_X12_endWeave_96 at hr
      refine zs_258_96 ?_
      repeat' first | refine And.intro rfl ?_ | refine And.intro (Or.inl rfl) ?_ | refine And.intro (Or.inr rfl) ?_ | refine And.intro (Nat.le_of_ble_eq_true rfl) ?_ | refine And.intro (And.intro rfl rfl) ?_ | exact rfl
      refine And.intro (fun (h5 : l1 ≤ l3) => ?_) (fun (h5 : ¬ (l1 ≤ l3)) => ?_)
      · rw [if_pos h5] at hr
        exact zz_wk [true, true, true, false] rfl (ih119 _ _ _ _ _ _ hr)
      · rw [if_neg h5] at hr
        repeat' first | refine And.intro rfl ?_ | refine And.intro (Or.inl rfl) ?_ | refine And.intro (Or.inr rfl) ?_ | refine And.intro (Nat.le_of_ble_eq_true rfl) ?_ | refine And.intro (And.intro rfl rfl) ?_ | exact rfl
        have g2 : ¬ (l3 < 0 ∨ 12 ≤ l3.toNatClampNeg) := zz_g hr
        replace hr := zz_gt hr
        refine And.intro (g2) ?_
        repeat' first | refine And.intro rfl ?_ | refine And.intro (Or.inl rfl) ?_ | refine And.intro (Or.inr rfl) ?_ | refine And.intro (Nat.le_of_ble_eq_true rfl) ?_ | refine And.intro (And.intro rfl rfl) ?_ | exact rfl
        refine And.intro (g2) ?_
        repeat' first | refine And.intro rfl ?_ | refine And.intro (Or.inl rfl) ?_ | refine And.intro (Or.inr rfl) ?_ | refine And.intro (Nat.le_of_ble_eq_true rfl) ?_ | refine And.intro (And.intro rfl rfl) ?_ | exact rfl
        exact zz_wk [true, true, true, true] rfl (ih96 _ _ _ _ _ _ hr)
    · intro l1 l2 l3 I J r hr
      replace hr : zb_X12_endWeave_119 N (zl_X12_endWeave N n) l1 l2 l3 I J = some r := hr
      unfold zb_X12_endWeave_119 at hr
      refine zs_258_119 ?_
      repeat' first | refine And.intro rfl ?_ | refine And.intro (Or.inl rfl) ?_ | refine And.intro (Or.inr rfl) ?_ | refine And.intro (Nat.le_of_ble_eq_true rfl) ?_ | refine And.intro (And.intro rfl rfl) ?_ | exact rfl
      refine And.intro (fun (h6 : l2 < (I 52 29)) => ?_) (fun (h6 : ¬ (l2 < (I 52 29))) => ?_)
      · rw [if_pos h6] at hr
        refine zs_258_128 ?_
        repeat' first | refine And.intro rfl ?_ | refine And.intro (Or.inl rfl) ?_ | refine And.intro (Or.inr rfl) ?_ | refine And.intro (Nat.le_of_ble_eq_true rfl) ?_ | refine And.intro (And.intro rfl rfl) ?_ | exact rfl
        exact zz_wk [true, true, false, true] rfl (ih135 _ _ _ _ _ _ hr)
      · rw [if_neg h6] at hr
        repeat' first | refine And.intro rfl ?_ | refine And.intro (Or.inl rfl) ?_ | refine And.intro (Or.inr rfl) ?_ | refine And.intro (Nat.le_of_ble_eq_true rfl) ?_ | refine And.intro (And.intro rfl rfl) ?_ | exact rfl
        cases hr
        repeat' first | refine And.intro rfl ?_ | refine And.intro (Or.inl rfl) ?_ | refine And.intro (Or.inr rfl) ?_ | refine And.intro (Nat.le_of_ble_eq_true rfl) ?_ | refine And.intro (And.intro rfl rfl) ?_ | exact rfl
    · intro l1 l2 l3 I J r hr
      replace hr : zb_X12_endWeave_135 N (zl_X12_endWeave N n) l1 l2 l3 I J = some r := hr
      unfold zb_X12_endWeave_135 at hr
      refine zs_258_135 ?_
      repeat' first | refine And.intro rfl ?_ | refine And.intro (Or.inl rfl) ?_ | refine And.intro (Or.inr rfl) ?_ | refine And.intro (Nat.le_of_ble_eq_true rfl) ?_ | refine And.intro (And.intro rfl rfl) ?_ | exact rfl
      refine And.intro (fun (h7 : l1 ≤ l3) => ?_) (fun (h7 : ¬ (l1 ≤ l3)) => ?_)
      · rw [if_pos h7] at hr
        refine zs_258_158 ?_
        repeat' first | refine And.intro rfl ?_ | refine And.intro (Or.inl rfl) ?_ | refine And.intro (Or.inr rfl) ?_ | refine And.intro (Nat.le_of_ble_eq_true rfl) ?_ | refine And.intro (And.intro rfl rfl) ?_ | exact rfl
        cases hr
        repeat' first | refine And.intro rfl ?_ | refine And.intro (Or.inl rfl) ?_ | refine And.intro (Or.inr rfl) ?_ | refine And.intro (Nat.le_of_ble_eq_true rfl) ?_ | refine And.intro (And.intro rfl rfl) ?_ | exact rfl
      · rw [if_neg h7] at hr
        repeat' first | refine And.intro rfl ?_ | refine And.intro (Or.inl rfl) ?_ | refine And.intro (Or.inr rfl) ?_ | refine And.intro (Nat.le_of_ble_eq_true rfl) ?_ | refine And.intro (And.intro rfl rfl) ?_ | exact rfl
        have g3 : ¬ (l3 < 0 ∨ 12 ≤ l3.toNatClampNeg) := zz_g hr
        replace hr := zz_gt hr
        refine And.intro (g3) ?_
        repeat' first | refine And.intro rfl ?_ | refine And.intro (Or.inl rfl) ?_ | refine And.intro (Or.inr rfl) ?_ | refine And.intro (Nat.le_of_ble_eq_true rfl) ?_ | refine And.intro (And.intro rfl rfl) ?_ | exact rfl
        refine And.intro (g3) ?_
        repeat' first | refine And.intro rfl ?_ | refine And.intro (Or.inl rfl) ?_ | refine And.intro (Or.inr rfl) ?_ | refine And.intro (Nat.le_of_ble_eq_true rfl) ?_ | refine And.intro (And.intro rfl rfl) ?_ | exact rfl
        exact zz_wk [true, true, false, true] rfl (ih135 _ _ _ _ _ _ hr)
theorem zr_X12_endWeave (F : zz_F) (I : Nat → Nat → Int32) (J : Nat → Nat → Int64) (d N : Nat) (l1 : Int32) (l2 : Int32) (r : Int32 × (Nat → Nat → Int32) × (Nat → Nat → Int64)) (h : zf_X12_endWeave N l1 l2 I J = some r) : zz_run (d+1) 258 0 [some (.ref 52), some (.int (l1)), some (.int (l2)), none] [] (zz_S F I J) none (zz_S F (r.2.1) (J)) := (zq_X12_endWeave F d N N).1 l1 l2 0 I J r h
def zb_X12_cheerOf_0 (N : Nat) (rec : Nat → Int32 → Int32 → Int32 → (Nat → Nat → Int32) → (Nat → Nat → Int64) → Option (Int32 × (Nat → Nat → Int32) × (Nat → Nat → Int64))) (l1 : Int32) (l2 : Int32) (l3 : Int32) (I : Nat → Nat → Int32) (J : Nat → Nat → Int64) : Option (Int32 × (Nat → Nat → Int32) × (Nat → Nat → Int64)) := rec 4 l1 0 0 I J
def zb_X12_cheerOf_4 (N : Nat) (rec : Nat → Int32 → Int32 → Int32 → (Nat → Nat → Int32) → (Nat → Nat → Int64) → Option (Int32 × (Nat → Nat → Int32) × (Nat → Nat → Int64))) (l1 : Int32) (l2 : Int32) (l3 : Int32) (I : Nat → Nat → Int32) (J : Nat → Nat → Int64) : Option (Int32 × (Nat → Nat → Int32) × (Nat → Nat → Int64)) := if (I 52 1) ≤ l3 then (some (l2, I, J)) else (if (zv_X12_has l1 l3) = 0 then (rec 4 l1 (l2 + 0) (l3 + 1) I J) else (if ¬ (((7 * l3) + 6) < 0 ∨ 84 ≤ ((7 * l3) + 6).toNatClampNeg) then (rec 4 l1 (l2 + (zv_X12_field I l3 6)) (l3 + 1) I J) else none))
def zl_X12_cheerOf (N : Nat) : Nat → Nat → Int32 → Int32 → Int32 → (Nat → Nat → Int32) → (Nat → Nat → Int64) → Option (Int32 × (Nat → Nat → Int32) × (Nat → Nat → Int64))
  | 0 => fun _ _ _ _ _ _ => none
  | n + 1 => fun pc l1 l2 l3 I J => if pc = 0 then zb_X12_cheerOf_0 N (zl_X12_cheerOf N n) l1 l2 l3 I J else (if pc = 4 then zb_X12_cheerOf_4 N (zl_X12_cheerOf N n) l1 l2 l3 I J else none)
def zf_X12_cheerOf (N : Nat) (l1 : Int32) (I : Nat → Nat → Int32) (J : Nat → Nat → Int64) : Option (Int32 × (Nat → Nat → Int32) × (Nat → Nat → Int64)) := zl_X12_cheerOf N N 0 l1 0 0 I J
theorem zq_X12_cheerOf (F : zz_F) (d N : Nat) : ∀ n : Nat, (∀ (l1 : Int32) (l2 : Int32) (l3 : Int32) (I : Nat → Nat → Int32) (J : Nat → Nat → Int64) (r : Int32 × (Nat → Nat → Int32) × (Nat → Nat → Int64)), zl_X12_cheerOf N n 0 l1 l2 l3 I J = some r → zz_run (d+1) 270 0 [some (.ref 52), some (.int (l1)), none, none] [] (zz_S F I J) (some (.int (r.1))) (zz_S F (I) (J))) ∧ (∀ (l1 : Int32) (l2 : Int32) (l3 : Int32) (I : Nat → Nat → Int32) (J : Nat → Nat → Int64) (r : Int32 × (Nat → Nat → Int32) × (Nat → Nat → Int64)), zl_X12_cheerOf N n 4 l1 l2 l3 I J = some r → zz_run (d+1) 270 4 [some (.ref 52), some (.int (l1)), some (.int (l2)), some (.int (l3))] [] (zz_S F I J) (some (.int (r.1))) (zz_S F (I) (J))) := by
  intro n
  induction n with
  | zero => exact ⟨fun _ _ _ _ _ _ h => zz_no h, fun _ _ _ _ _ _ h => zz_no h⟩
  | succ n ih =>
    obtain ⟨ih0, ih4⟩ := ih
    refine ⟨?_, ?_⟩
    · intro l1 l2 l3 I J r hr
      replace hr : zb_X12_cheerOf_0 N (zl_X12_cheerOf N n) l1 l2 l3 I J = some r := hr
      unfold zb_X12_cheerOf_0 at hr
      refine zs_270_0 ?_
      repeat' first | refine And.intro rfl ?_ | refine And.intro (Or.inl rfl) ?_ | refine And.intro (Or.inr rfl) ?_ | refine And.intro (Nat.le_of_ble_eq_true rfl) ?_ | refine And.intro (And.intro rfl rfl) ?_ | exact rfl
      exact zz_wk [true, true, true, true] rfl (ih4 _ _ _ _ _ _ hr)
    · intro l1 l2 l3 I J r hr
      replace hr : zb_X12_cheerOf_4 N (zl_X12_cheerOf N n) l1 l2 l3 I J = some r := hr
      unfold zb_X12_cheerOf_4 at hr
      refine zs_270_4 ?_
      repeat' first | refine And.intro rfl ?_ | refine And.intro (Or.inl rfl) ?_ | refine And.intro (Or.inr rfl) ?_ | refine And.intro (Nat.le_of_ble_eq_true rfl) ?_ | refine And.intro (And.intro rfl rfl) ?_ | exact rfl
      refine And.intro (fun (h1 : (I 52 1) ≤ l3) => ?_) (fun (h1 : ¬ ((I 52 1) ≤ l3)) => ?_)
      · rw [if_pos h1] at hr
        refine zs_270_40 ?_
        repeat' first | refine And.intro rfl ?_ | refine And.intro (Or.inl rfl) ?_ | refine And.intro (Or.inr rfl) ?_ | refine And.intro (Nat.le_of_ble_eq_true rfl) ?_ | refine And.intro (And.intro rfl rfl) ?_ | exact rfl
        cases hr
        repeat' first | refine And.intro rfl ?_ | refine And.intro (Or.inl rfl) ?_ | refine And.intro (Or.inr rfl) ?_ | refine And.intro (Nat.le_of_ble_eq_true rfl) ?_ | refine And.intro (And.intro rfl rfl) ?_ | exact rfl
      · rw [if_neg h1] at hr
        repeat' first | refine And.intro rfl ?_ | refine And.intro (Or.inl rfl) ?_ | refine And.intro (Or.inr rfl) ?_ | refine And.intro (Nat.le_of_ble_eq_true rfl) ?_ | refine And.intro (And.intro rfl rfl) ?_ | exact rfl
        refine Exists.intro _ (Exists.intro _ (And.intro (zr_X12_has F I J d l1 l3) ?_))
        repeat' first | refine And.intro rfl ?_ | refine And.intro (Or.inl rfl) ?_ | refine And.intro (Or.inr rfl) ?_ | refine And.intro (Nat.le_of_ble_eq_true rfl) ?_ | refine And.intro (And.intro rfl rfl) ?_ | exact rfl
        refine And.intro (fun (h2 : (zv_X12_has l1 l3) = 0) => ?_) (fun (h2 : ¬ ((zv_X12_has l1 l3) = 0)) => ?_)
        · rw [if_pos h2] at hr
          refine zs_270_31 ?_
          repeat' first | refine And.intro rfl ?_ | refine And.intro (Or.inl rfl) ?_ | refine And.intro (Or.inr rfl) ?_ | refine And.intro (Nat.le_of_ble_eq_true rfl) ?_ | refine And.intro (And.intro rfl rfl) ?_ | exact rfl
          refine zs_270_32 ?_
          repeat' first | refine And.intro rfl ?_ | refine And.intro (Or.inl rfl) ?_ | refine And.intro (Or.inr rfl) ?_ | refine And.intro (Nat.le_of_ble_eq_true rfl) ?_ | refine And.intro (And.intro rfl rfl) ?_ | exact rfl
          exact zz_wk [true, true, true, true] rfl (ih4 _ _ _ _ _ _ hr)
        · rw [if_neg h2] at hr
          repeat' first | refine And.intro rfl ?_ | refine And.intro (Or.inl rfl) ?_ | refine And.intro (Or.inr rfl) ?_ | refine And.intro (Nat.le_of_ble_eq_true rfl) ?_ | refine And.intro (And.intro rfl rfl) ?_ | exact rfl
          have g1 : ¬ (((7 * l3) + 6) < 0 ∨ 84 ≤ ((7 * l3) + 6).toNatClampNeg) := zz_g hr
          replace hr := zz_gt hr
          refine Exists.intro _ (Exists.intro _ (And.intro (zr_X12_field F I J d l3 6 g1) ?_))
          repeat' first | refine And.intro rfl ?_ | refine And.intro (Or.inl rfl) ?_ | refine And.intro (Or.inr rfl) ?_ | refine And.intro (Nat.le_of_ble_eq_true rfl) ?_ | refine And.intro (And.intro rfl rfl) ?_ | exact rfl
          refine zs_270_32 ?_
          repeat' first | refine And.intro rfl ?_ | refine And.intro (Or.inl rfl) ?_ | refine And.intro (Or.inr rfl) ?_ | refine And.intro (Nat.le_of_ble_eq_true rfl) ?_ | refine And.intro (And.intro rfl rfl) ?_ | exact rfl
          exact zz_wk [true, true, true, true] rfl (ih4 _ _ _ _ _ _ hr)
theorem zr_X12_cheerOf (F : zz_F) (I : Nat → Nat → Int32) (J : Nat → Nat → Int64) (d N : Nat) (l1 : Int32) (r : Int32 × (Nat → Nat → Int32) × (Nat → Nat → Int64)) (h : zf_X12_cheerOf N l1 I J = some r) : zz_run (d+1) 270 0 [some (.ref 52), some (.int (l1)), none, none] [] (zz_S F I J) (some (.int (r.1))) (zz_S F (I) (J)) := (zq_X12_cheerOf F d N N).1 l1 0 0 I J r h
def zb_X12_clashesOf_0 (N : Nat) (rec : Nat → Int32 → Int32 → Int32 → Int32 → Int32 → Int32 → Int32 → Int32 → (Nat → Nat → Int32) → (Nat → Nat → Int64) → Option (Int32 × (Nat → Nat → Int32) × (Nat → Nat → Int64))) (l1 : Int32) (l2 : Int32) (l3 : Int32) (l4 : Int32) (l5 : Int32) (l6 : Int32) (l7 : Int32) (l8 : Int32) (I : Nat → Nat → Int32) (J : Nat → Nat → Int64) : Option (Int32 × (Nat → Nat → Int32) × (Nat → Nat → Int64)) := rec 12 l1 0 0 l2 l3 0 0 0 I J
def zb_X12_clashesOf_12 (N : Nat) (rec : Nat → Int32 → Int32 → Int32 → Int32 → Int32 → Int32 → Int32 → Int32 → (Nat → Nat → Int32) → (Nat → Nat → Int64) → Option (Int32 × (Nat → Nat → Int32) × (Nat → Nat → Int64))) (l1 : Int32) (l2 : Int32) (l3 : Int32) (l4 : Int32) (l5 : Int32) (l6 : Int32) (l7 : Int32) (l8 : Int32) (I : Nat → Nat → Int32) (J : Nat → Nat → Int64) : Option (Int32 × (Nat → Nat → Int32) × (Nat → Nat → Int64)) := if (I 52 1) ≤ l7 then (some (l6, I, J)) else (if ¬ (zv_X12_has l1 l7) = 0 then (if ¬ (((7 * l7) + 0) < 0 ∨ 84 ≤ ((7 * l7) + 0).toNatClampNeg) then (if ¬ (zv_X12_playOf I l7) = 0 then (if ¬ (((7 * l7) + 5) < 0 ∨ 84 ≤ ((7 * l7) + 5).toNatClampNeg) then (if (zv_X12_doesClash I l5 l7) = 0 then (if ¬ (zv_X12_playOf I l7) = 0 then (if ¬ (((7 * l7) + 4) < 0 ∨ 84 ≤ ((7 * l7) + 4).toNatClampNeg) then (rec 107 l1 0 0 l4 (zv_X12_knownBy I l5 l7) (l6 ||| 0) l7 0 I J) else none) else (if ¬ (((7 * l7) + 4) < 0 ∨ 84 ≤ ((7 * l7) + 4).toNatClampNeg) then (rec 107 l1 0 0 (zv_X12_knownBy I l5 l7) l5 (l6 ||| 0) l7 0 I J) else none)) else (if ¬ (zv_X12_playOf I l7) = 0 then (if ¬ (((7 * l7) + 4) < 0 ∨ 84 ≤ ((7 * l7) + 4).toNatClampNeg) then (rec 107 l1 0 0 l4 (zv_X12_knownBy I l5 l7) (l6 ||| ((1 : Int32) <<< (l7 &&& 31))) l7 0 I J) else none) else (if ¬ (((7 * l7) + 4) < 0 ∨ 84 ≤ ((7 * l7) + 4).toNatClampNeg) then (rec 107 l1 0 0 (zv_X12_knownBy I l5 l7) l5 (l6 ||| ((1 : Int32) <<< (l7 &&& 31))) l7 0 I J) else none))) else none) else (if ¬ (((7 * l7) + 5) < 0 ∨ 84 ≤ ((7 * l7) + 5).toNatClampNeg) then (if (zv_X12_doesClash I l4 l7) = 0 then (if ¬ (zv_X12_playOf I l7) = 0 then (if ¬ (((7 * l7) + 4) < 0 ∨ 84 ≤ ((7 * l7) + 4).toNatClampNeg) then (rec 107 l1 0 0 l4 (zv_X12_knownBy I l4 l7) (l6 ||| 0) l7 0 I J) else none) else (if ¬ (((7 * l7) + 4) < 0 ∨ 84 ≤ ((7 * l7) + 4).toNatClampNeg) then (rec 107 l1 0 0 (zv_X12_knownBy I l4 l7) l5 (l6 ||| 0) l7 0 I J) else none)) else (if ¬ (zv_X12_playOf I l7) = 0 then (if ¬ (((7 * l7) + 4) < 0 ∨ 84 ≤ ((7 * l7) + 4).toNatClampNeg) then (rec 107 l1 0 0 l4 (zv_X12_knownBy I l4 l7) (l6 ||| ((1 : Int32) <<< (l7 &&& 31))) l7 0 I J) else none) else (if ¬ (((7 * l7) + 4) < 0 ∨ 84 ≤ ((7 * l7) + 4).toNatClampNeg) then (rec 107 l1 0 0 (zv_X12_knownBy I l4 l7) l5 (l6 ||| ((1 : Int32) <<< (l7 &&& 31))) l7 0 I J) else none))) else none)) else none) else (rec 107 l1 0 0 l4 l5 l6 l7 0 I J))
def zb_X12_clashesOf_107 (N : Nat) (rec : Nat → Int32 → Int32 → Int32 → Int32 → Int32 → Int32 → Int32 → Int32 → (Nat → Nat → Int32) → (Nat → Nat → Int64) → Option (Int32 × (Nat → Nat → Int32) × (Nat → Nat → Int64))) (l1 : Int32) (l2 : Int32) (l3 : Int32) (l4 : Int32) (l5 : Int32) (l6 : Int32) (l7 : Int32) (l8 : Int32) (I : Nat → Nat → Int32) (J : Nat → Nat → Int64) : Option (Int32 × (Nat → Nat → Int32) × (Nat → Nat → Int64)) := rec 12 l1 0 0 l4 l5 l6 (l7 + 1) 0 I J
def zl_X12_clashesOf (N : Nat) : Nat → Nat → Int32 → Int32 → Int32 → Int32 → Int32 → Int32 → Int32 → Int32 → (Nat → Nat → Int32) → (Nat → Nat → Int64) → Option (Int32 × (Nat → Nat → Int32) × (Nat → Nat → Int64))
  | 0 => fun _ _ _ _ _ _ _ _ _ _ _ => none
  | n + 1 => fun pc l1 l2 l3 l4 l5 l6 l7 l8 I J => if pc = 0 then zb_X12_clashesOf_0 N (zl_X12_clashesOf N n) l1 l2 l3 l4 l5 l6 l7 l8 I J else (if pc = 12 then zb_X12_clashesOf_12 N (zl_X12_clashesOf N n) l1 l2 l3 l4 l5 l6 l7 l8 I J else (if pc = 107 then zb_X12_clashesOf_107 N (zl_X12_clashesOf N n) l1 l2 l3 l4 l5 l6 l7 l8 I J else none))
def zf_X12_clashesOf (N : Nat) (l1 : Int32) (l2 : Int32) (l3 : Int32) (I : Nat → Nat → Int32) (J : Nat → Nat → Int64) : Option (Int32 × (Nat → Nat → Int32) × (Nat → Nat → Int64)) := zl_X12_clashesOf N N 0 l1 l2 l3 0 0 0 0 0 I J
theorem zq_X12_clashesOf (F : zz_F) (d N : Nat) : ∀ n : Nat, (∀ (l1 : Int32) (l2 : Int32) (l3 : Int32) (l4 : Int32) (l5 : Int32) (l6 : Int32) (l7 : Int32) (l8 : Int32) (I : Nat → Nat → Int32) (J : Nat → Nat → Int64) (r : Int32 × (Nat → Nat → Int32) × (Nat → Nat → Int64)), zl_X12_clashesOf N n 0 l1 l2 l3 l4 l5 l6 l7 l8 I J = some r → zz_run (d+2) 272 0 [some (.ref 52), some (.int (l1)), some (.int (l2)), some (.int (l3)), none, none, none, none, none] [] (zz_S F I J) (some (.int (r.1))) (zz_S F (I) (J))) ∧ (∀ (l1 : Int32) (l2 : Int32) (l3 : Int32) (l4 : Int32) (l5 : Int32) (l6 : Int32) (l7 : Int32) (l8 : Int32) (I : Nat → Nat → Int32) (J : Nat → Nat → Int64) (r : Int32 × (Nat → Nat → Int32) × (Nat → Nat → Int64)), zl_X12_clashesOf N n 12 l1 l2 l3 l4 l5 l6 l7 l8 I J = some r → zz_run (d+2) 272 12 [some (.ref 52), some (.int (l1)), none, none, some (.int (l4)), some (.int (l5)), some (.int (l6)), some (.int (l7)), none] [] (zz_S F I J) (some (.int (r.1))) (zz_S F (I) (J))) ∧ (∀ (l1 : Int32) (l2 : Int32) (l3 : Int32) (l4 : Int32) (l5 : Int32) (l6 : Int32) (l7 : Int32) (l8 : Int32) (I : Nat → Nat → Int32) (J : Nat → Nat → Int64) (r : Int32 × (Nat → Nat → Int32) × (Nat → Nat → Int64)), zl_X12_clashesOf N n 107 l1 l2 l3 l4 l5 l6 l7 l8 I J = some r → zz_run (d+2) 272 107 [some (.ref 52), some (.int (l1)), none, none, some (.int (l4)), some (.int (l5)), some (.int (l6)), some (.int (l7)), none] [] (zz_S F I J) (some (.int (r.1))) (zz_S F (I) (J))) := by
  intro n
  induction n with
  | zero => exact ⟨fun _ _ _ _ _ _ _ _ _ _ _ h => zz_no h, fun _ _ _ _ _ _ _ _ _ _ _ h => zz_no h, fun _ _ _ _ _ _ _ _ _ _ _ h => zz_no h⟩
  | succ n ih =>
    obtain ⟨ih0, ih12, ih107⟩ := ih
    refine ⟨?_, ?_, ?_⟩
    · intro l1 l2 l3 l4 l5 l6 l7 l8 I J r hr
      replace hr : zb_X12_clashesOf_0 N (zl_X12_clashesOf N n) l1 l2 l3 l4 l5 l6 l7 l8 I J = some r := hr
      unfold zb_X12_clashesOf_0 at hr
      refine zs_272_0 ?_
      repeat' first | refine And.intro rfl ?_ | refine And.intro (Or.inl rfl) ?_ | refine And.intro (Or.inr rfl) ?_ | refine And.intro (Nat.le_of_ble_eq_true rfl) ?_ | refine And.intro (And.intro rfl rfl) ?_ | exact rfl
      exact zz_wk [true, true, false, false, true, true, true, true, false] rfl (ih12 _ _ _ _ _ _ _ _ _ _ _ hr)
    · intro l1 l2 l3 l4 l5 l6 l7 l8 I J r hr
      replace hr : zb_X12_clashesOf_12 N (zl_X12_clashesOf N n) l1 l2 l3 l4 l5 l6 l7 l8 I J = some r := hr
      unfold zb_X12_clashesOf_12 at hr
      refine zs_272_12 ?_
      repeat' first | refine And.intro rfl ?_ | refine And.intro (Or.inl rfl) ?_ | refine And.intro (Or.inr rfl) ?_ | refine And.intro (Nat.le_of_ble_eq_true rfl) ?_ | refine And.intro (And.intro rfl rfl) ?_ | exact rfl
      refine And.intro (fun (h1 : (I 52 1) ≤ l7) => ?_) (fun (h1 : ¬ ((I 52 1) ≤ l7)) => ?_)
      · rw [if_pos h1] at hr
        refine zs_272_113 ?_
        repeat' first | refine And.intro rfl ?_ | refine And.intro (Or.inl rfl) ?_ | refine And.intro (Or.inr rfl) ?_ | refine And.intro (Nat.le_of_ble_eq_true rfl) ?_ | refine And.intro (And.intro rfl rfl) ?_ | exact rfl
        cases hr
        repeat' first | refine And.intro rfl ?_ | refine And.intro (Or.inl rfl) ?_ | refine And.intro (Or.inr rfl) ?_ | refine And.intro (Nat.le_of_ble_eq_true rfl) ?_ | refine And.intro (And.intro rfl rfl) ?_ | exact rfl
      · rw [if_neg h1] at hr
        repeat' first | refine And.intro rfl ?_ | refine And.intro (Or.inl rfl) ?_ | refine And.intro (Or.inr rfl) ?_ | refine And.intro (Nat.le_of_ble_eq_true rfl) ?_ | refine And.intro (And.intro rfl rfl) ?_ | exact rfl
        refine Exists.intro _ (Exists.intro _ (And.intro (zr_X12_has F I J (d+1) l1 l7) ?_))
        repeat' first | refine And.intro rfl ?_ | refine And.intro (Or.inl rfl) ?_ | refine And.intro (Or.inr rfl) ?_ | refine And.intro (Nat.le_of_ble_eq_true rfl) ?_ | refine And.intro (And.intro rfl rfl) ?_ | exact rfl
        refine And.intro (fun (h2 : ¬ (zv_X12_has l1 l7) = 0) => ?_) (fun (h2 : ¬ (¬ (zv_X12_has l1 l7) = 0)) => ?_)
        · rw [if_pos h2] at hr
          refine zs_272_33 ?_
          repeat' first | refine And.intro rfl ?_ | refine And.intro (Or.inl rfl) ?_ | refine And.intro (Or.inr rfl) ?_ | refine And.intro (Nat.le_of_ble_eq_true rfl) ?_ | refine And.intro (And.intro rfl rfl) ?_ | exact rfl
          have g1 : ¬ (((7 * l7) + 0) < 0 ∨ 84 ≤ ((7 * l7) + 0).toNatClampNeg) := zz_g hr
          replace hr := zz_gt hr
          refine Exists.intro _ (Exists.intro _ (And.intro (zr_X12_playOf F I J d l7 g1) ?_))
          repeat' first | refine And.intro rfl ?_ | refine And.intro (Or.inl rfl) ?_ | refine And.intro (Or.inr rfl) ?_ | refine And.intro (Nat.le_of_ble_eq_true rfl) ?_ | refine And.intro (And.intro rfl rfl) ?_ | exact rfl
          refine And.intro (fun (h3 : ¬ (zv_X12_playOf I l7) = 0) => ?_) (fun (h3 : ¬ (¬ (zv_X12_playOf I l7) = 0)) => ?_)
          · rw [if_pos h3] at hr
            refine zs_272_47 ?_
            repeat' first | refine And.intro rfl ?_ | refine And.intro (Or.inl rfl) ?_ | refine And.intro (Or.inr rfl) ?_ | refine And.intro (Nat.le_of_ble_eq_true rfl) ?_ | refine And.intro (And.intro rfl rfl) ?_ | exact rfl
            refine zs_272_49 ?_
            repeat' first | refine And.intro rfl ?_ | refine And.intro (Or.inl rfl) ?_ | refine And.intro (Or.inr rfl) ?_ | refine And.intro (Nat.le_of_ble_eq_true rfl) ?_ | refine And.intro (And.intro rfl rfl) ?_ | exact rfl
            have g2 : ¬ (((7 * l7) + 5) < 0 ∨ 84 ≤ ((7 * l7) + 5).toNatClampNeg) := zz_g hr
            replace hr := zz_gt hr
            refine Exists.intro _ (Exists.intro _ (And.intro (zr_X12_doesClash F I J d l5 l7 g2) ?_))
            repeat' first | refine And.intro rfl ?_ | refine And.intro (Or.inl rfl) ?_ | refine And.intro (Or.inr rfl) ?_ | refine And.intro (Nat.le_of_ble_eq_true rfl) ?_ | refine And.intro (And.intro rfl rfl) ?_ | exact rfl
            refine And.intro (fun (h4 : (zv_X12_doesClash I l5 l7) = 0) => ?_) (fun (h4 : ¬ ((zv_X12_doesClash I l5 l7) = 0)) => ?_)
            · rw [if_pos h4] at hr
              refine zs_272_71 ?_
              repeat' first | refine And.intro rfl ?_ | refine And.intro (Or.inl rfl) ?_ | refine And.intro (Or.inr rfl) ?_ | refine And.intro (Nat.le_of_ble_eq_true rfl) ?_ | refine And.intro (And.intro rfl rfl) ?_ | exact rfl
              refine zs_272_72 ?_
              repeat' first | refine And.intro rfl ?_ | refine And.intro (Or.inl rfl) ?_ | refine And.intro (Or.inr rfl) ?_ | refine And.intro (Nat.le_of_ble_eq_true rfl) ?_ | refine And.intro (And.intro rfl rfl) ?_ | exact rfl
              refine Exists.intro _ (Exists.intro _ (And.intro (zr_X12_playOf F I J d l7 g1) ?_))
              repeat' first | refine And.intro rfl ?_ | refine And.intro (Or.inl rfl) ?_ | refine And.intro (Or.inr rfl) ?_ | refine And.intro (Nat.le_of_ble_eq_true rfl) ?_ | refine And.intro (And.intro rfl rfl) ?_ | exact rfl
              refine And.intro (fun (h5 : ¬ (zv_X12_playOf I l7) = 0) => ?_) (fun (h5 : ¬ (¬ (zv_X12_playOf I l7) = 0)) => ?_)
              · rw [if_pos h5] at hr
                refine zs_272_97 ?_
                repeat' first | refine And.intro rfl ?_ | refine And.intro (Or.inl rfl) ?_ | refine And.intro (Or.inr rfl) ?_ | refine And.intro (Nat.le_of_ble_eq_true rfl) ?_ | refine And.intro (And.intro rfl rfl) ?_ | exact rfl
                have g3 : ¬ (((7 * l7) + 4) < 0 ∨ 84 ≤ ((7 * l7) + 4).toNatClampNeg) := zz_g hr
                replace hr := zz_gt hr
                refine Exists.intro _ (Exists.intro _ (And.intro (zr_X12_knownBy F I J d l5 l7 g3) ?_))
                repeat' first | refine And.intro rfl ?_ | refine And.intro (Or.inl rfl) ?_ | refine And.intro (Or.inr rfl) ?_ | refine And.intro (Nat.le_of_ble_eq_true rfl) ?_ | refine And.intro (And.intro rfl rfl) ?_ | exact rfl
                exact zz_wk [true, true, false, false, true, true, true, true, false] rfl (ih107 _ _ _ _ _ _ _ _ _ _ _ hr)
              · rw [if_neg h5] at hr
                repeat' first | refine And.intro rfl ?_ | refine And.intro (Or.inl rfl) ?_ | refine And.intro (Or.inr rfl) ?_ | refine And.intro (Nat.le_of_ble_eq_true rfl) ?_ | refine And.intro (And.intro rfl rfl) ?_ | exact rfl
                have g4 : ¬ (((7 * l7) + 4) < 0 ∨ 84 ≤ ((7 * l7) + 4).toNatClampNeg) := zz_g hr
                replace hr := zz_gt hr
                refine Exists.intro _ (Exists.intro _ (And.intro (zr_X12_knownBy F I J d l5 l7 g4) ?_))
                repeat' first | refine And.intro rfl ?_ | refine And.intro (Or.inl rfl) ?_ | refine And.intro (Or.inr rfl) ?_ | refine And.intro (Nat.le_of_ble_eq_true rfl) ?_ | refine And.intro (And.intro rfl rfl) ?_ | exact rfl
                exact zz_wk [true, true, false, false, true, true, true, true, false] rfl (ih107 _ _ _ _ _ _ _ _ _ _ _ hr)
            · rw [if_neg h4] at hr
              repeat' first | refine And.intro rfl ?_ | refine And.intro (Or.inl rfl) ?_ | refine And.intro (Or.inr rfl) ?_ | refine And.intro (Nat.le_of_ble_eq_true rfl) ?_ | refine And.intro (And.intro rfl rfl) ?_ | exact rfl
              refine zs_272_72 ?_
              repeat' first | refine And.intro rfl ?_ | refine And.intro (Or.inl rfl) ?_ | refine And.intro (Or.inr rfl) ?_ | refine And.intro (Nat.le_of_ble_eq_true rfl) ?_ | refine And.intro (And.intro rfl rfl) ?_ | exact rfl
              refine Exists.intro _ (Exists.intro _ (And.intro (zr_X12_playOf F I J d l7 g1) ?_))
              repeat' first | refine And.intro rfl ?_ | refine And.intro (Or.inl rfl) ?_ | refine And.intro (Or.inr rfl) ?_ | refine And.intro (Nat.le_of_ble_eq_true rfl) ?_ | refine And.intro (And.intro rfl rfl) ?_ | exact rfl
              refine And.intro (fun (h6 : ¬ (zv_X12_playOf I l7) = 0) => ?_) (fun (h6 : ¬ (¬ (zv_X12_playOf I l7) = 0)) => ?_)
              · rw [if_pos h6] at hr
                refine zs_272_97 ?_
                repeat' first | refine And.intro rfl ?_ | refine And.intro (Or.inl rfl) ?_ | refine And.intro (Or.inr rfl) ?_ | refine And.intro (Nat.le_of_ble_eq_true rfl) ?_ | refine And.intro (And.intro rfl rfl) ?_ | exact rfl
                have g5 : ¬ (((7 * l7) + 4) < 0 ∨ 84 ≤ ((7 * l7) + 4).toNatClampNeg) := zz_g hr
                replace hr := zz_gt hr
                refine Exists.intro _ (Exists.intro _ (And.intro (zr_X12_knownBy F I J d l5 l7 g5) ?_))
                repeat' first | refine And.intro rfl ?_ | refine And.intro (Or.inl rfl) ?_ | refine And.intro (Or.inr rfl) ?_ | refine And.intro (Nat.le_of_ble_eq_true rfl) ?_ | refine And.intro (And.intro rfl rfl) ?_ | exact rfl
                exact zz_wk [true, true, false, false, true, true, true, true, false] rfl (ih107 _ _ _ _ _ _ _ _ _ _ _ hr)
              · rw [if_neg h6] at hr
                repeat' first | refine And.intro rfl ?_ | refine And.intro (Or.inl rfl) ?_ | refine And.intro (Or.inr rfl) ?_ | refine And.intro (Nat.le_of_ble_eq_true rfl) ?_ | refine And.intro (And.intro rfl rfl) ?_ | exact rfl
                have g6 : ¬ (((7 * l7) + 4) < 0 ∨ 84 ≤ ((7 * l7) + 4).toNatClampNeg) := zz_g hr
                replace hr := zz_gt hr
                refine Exists.intro _ (Exists.intro _ (And.intro (zr_X12_knownBy F I J d l5 l7 g6) ?_))
                repeat' first | refine And.intro rfl ?_ | refine And.intro (Or.inl rfl) ?_ | refine And.intro (Or.inr rfl) ?_ | refine And.intro (Nat.le_of_ble_eq_true rfl) ?_ | refine And.intro (And.intro rfl rfl) ?_ | exact rfl
                exact zz_wk [true, true, false, false, true, true, true, true, false] rfl (ih107 _ _ _ _ _ _ _ _ _ _ _ hr)
          · rw [if_neg h3] at hr
            repeat' first | refine And.intro rfl ?_ | refine And.intro (Or.inl rfl) ?_ | refine And.intro (Or.inr rfl) ?_ | refine And.intro (Nat.le_of_ble_eq_true rfl) ?_ | refine And.intro (And.intro rfl rfl) ?_ | exact rfl
            refine zs_272_49 ?_
            repeat' first | refine And.intro rfl ?_ | refine And.intro (Or.inl rfl) ?_ | refine And.intro (Or.inr rfl) ?_ | refine And.intro (Nat.le_of_ble_eq_true rfl) ?_ | refine And.intro (And.intro rfl rfl) ?_ | exact rfl
            have g7 : ¬ (((7 * l7) + 5) < 0 ∨ 84 ≤ ((7 * l7) + 5).toNatClampNeg) := zz_g hr
            replace hr := zz_gt hr
            refine Exists.intro _ (Exists.intro _ (And.intro (zr_X12_doesClash F I J d l4 l7 g7) ?_))
            repeat' first | refine And.intro rfl ?_ | refine And.intro (Or.inl rfl) ?_ | refine And.intro (Or.inr rfl) ?_ | refine And.intro (Nat.le_of_ble_eq_true rfl) ?_ | refine And.intro (And.intro rfl rfl) ?_ | exact rfl
            refine And.intro (fun (h7 : (zv_X12_doesClash I l4 l7) = 0) => ?_) (fun (h7 : ¬ ((zv_X12_doesClash I l4 l7) = 0)) => ?_)
            · rw [if_pos h7] at hr
              refine zs_272_71 ?_
              repeat' first | refine And.intro rfl ?_ | refine And.intro (Or.inl rfl) ?_ | refine And.intro (Or.inr rfl) ?_ | refine And.intro (Nat.le_of_ble_eq_true rfl) ?_ | refine And.intro (And.intro rfl rfl) ?_ | exact rfl
              refine zs_272_72 ?_
              repeat' first | refine And.intro rfl ?_ | refine And.intro (Or.inl rfl) ?_ | refine And.intro (Or.inr rfl) ?_ | refine And.intro (Nat.le_of_ble_eq_true rfl) ?_ | refine And.intro (And.intro rfl rfl) ?_ | exact rfl
              refine Exists.intro _ (Exists.intro _ (And.intro (zr_X12_playOf F I J d l7 g1) ?_))
              repeat' first | refine And.intro rfl ?_ | refine And.intro (Or.inl rfl) ?_ | refine And.intro (Or.inr rfl) ?_ | refine And.intro (Nat.le_of_ble_eq_true rfl) ?_ | refine And.intro (And.intro rfl rfl) ?_ | exact rfl
              refine And.intro (fun (h8 : ¬ (zv_X12_playOf I l7) = 0) => ?_) (fun (h8 : ¬ (¬ (zv_X12_playOf I l7) = 0)) => ?_)
              · rw [if_pos h8] at hr
                refine zs_272_97 ?_
                repeat' first | refine And.intro rfl ?_ | refine And.intro (Or.inl rfl) ?_ | refine And.intro (Or.inr rfl) ?_ | refine And.intro (Nat.le_of_ble_eq_true rfl) ?_ | refine And.intro (And.intro rfl rfl) ?_ | exact rfl
                have g8 : ¬ (((7 * l7) + 4) < 0 ∨ 84 ≤ ((7 * l7) + 4).toNatClampNeg) := zz_g hr
                replace hr := zz_gt hr
                refine Exists.intro _ (Exists.intro _ (And.intro (zr_X12_knownBy F I J d l4 l7 g8) ?_))
                repeat' first | refine And.intro rfl ?_ | refine And.intro (Or.inl rfl) ?_ | refine And.intro (Or.inr rfl) ?_ | refine And.intro (Nat.le_of_ble_eq_true rfl) ?_ | refine And.intro (And.intro rfl rfl) ?_ | exact rfl
                exact zz_wk [true, true, false, false, true, true, true, true, false] rfl (ih107 _ _ _ _ _ _ _ _ _ _ _ hr)
              · rw [if_neg h8] at hr
                repeat' first | refine And.intro rfl ?_ | refine And.intro (Or.inl rfl) ?_ | refine And.intro (Or.inr rfl) ?_ | refine And.intro (Nat.le_of_ble_eq_true rfl) ?_ | refine And.intro (And.intro rfl rfl) ?_ | exact rfl
                have g9 : ¬ (((7 * l7) + 4) < 0 ∨ 84 ≤ ((7 * l7) + 4).toNatClampNeg) := zz_g hr
                replace hr := zz_gt hr
                refine Exists.intro _ (Exists.intro _ (And.intro (zr_X12_knownBy F I J d l4 l7 g9) ?_))
                repeat' first | refine And.intro rfl ?_ | refine And.intro (Or.inl rfl) ?_ | refine And.intro (Or.inr rfl) ?_ | refine And.intro (Nat.le_of_ble_eq_true rfl) ?_ | refine And.intro (And.intro rfl rfl) ?_ | exact rfl
                exact zz_wk [true, true, false, false, true, true, true, true, false] rfl (ih107 _ _ _ _ _ _ _ _ _ _ _ hr)
            · rw [if_neg h7] at hr
              repeat' first | refine And.intro rfl ?_ | refine And.intro (Or.inl rfl) ?_ | refine And.intro (Or.inr rfl) ?_ | refine And.intro (Nat.le_of_ble_eq_true rfl) ?_ | refine And.intro (And.intro rfl rfl) ?_ | exact rfl
              refine zs_272_72 ?_
              repeat' first | refine And.intro rfl ?_ | refine And.intro (Or.inl rfl) ?_ | refine And.intro (Or.inr rfl) ?_ | refine And.intro (Nat.le_of_ble_eq_true rfl) ?_ | refine And.intro (And.intro rfl rfl) ?_ | exact rfl
              refine Exists.intro _ (Exists.intro _ (And.intro (zr_X12_playOf F I J d l7 g1) ?_))
              repeat' first | refine And.intro rfl ?_ | refine And.intro (Or.inl rfl) ?_ | refine And.intro (Or.inr rfl) ?_ | refine And.intro (Nat.le_of_ble_eq_true rfl) ?_ | refine And.intro (And.intro rfl rfl) ?_ | exact rfl
              refine And.intro (fun (h9 : ¬ (zv_X12_playOf I l7) = 0) => ?_) (fun (h9 : ¬ (¬ (zv_X12_playOf I l7) = 0)) => ?_)
              · rw [if_pos h9] at hr
                refine zs_272_97 ?_
                repeat' first | refine And.intro rfl ?_ | refine And.intro (Or.inl rfl) ?_ | refine And.intro (Or.inr rfl) ?_ | refine And.intro (Nat.le_of_ble_eq_true rfl) ?_ | refine And.intro (And.intro rfl rfl) ?_ | exact rfl
                have g10 : ¬ (((7 * l7) + 4) < 0 ∨ 84 ≤ ((7 * l7) + 4).toNatClampNeg) := zz_g hr
                replace hr := zz_gt hr
                refine Exists.intro _ (Exists.intro _ (And.intro (zr_X12_knownBy F I J d l4 l7 g10) ?_))
                repeat' first | refine And.intro rfl ?_ | refine And.intro (Or.inl rfl) ?_ | refine And.intro (Or.inr rfl) ?_ | refine And.intro (Nat.le_of_ble_eq_true rfl) ?_ | refine And.intro (And.intro rfl rfl) ?_ | exact rfl
                exact zz_wk [true, true, false, false, true, true, true, true, false] rfl (ih107 _ _ _ _ _ _ _ _ _ _ _ hr)
              · rw [if_neg h9] at hr
                repeat' first | refine And.intro rfl ?_ | refine And.intro (Or.inl rfl) ?_ | refine And.intro (Or.inr rfl) ?_ | refine And.intro (Nat.le_of_ble_eq_true rfl) ?_ | refine And.intro (And.intro rfl rfl) ?_ | exact rfl
                have g11 : ¬ (((7 * l7) + 4) < 0 ∨ 84 ≤ ((7 * l7) + 4).toNatClampNeg) := zz_g hr
                replace hr := zz_gt hr
                refine Exists.intro _ (Exists.intro _ (And.intro (zr_X12_knownBy F I J d l4 l7 g11) ?_))
                repeat' first | refine And.intro rfl ?_ | refine And.intro (Or.inl rfl) ?_ | refine And.intro (Or.inr rfl) ?_ | refine And.intro (Nat.le_of_ble_eq_true rfl) ?_ | refine And.intro (And.intro rfl rfl) ?_ | exact rfl
                exact zz_wk [true, true, false, false, true, true, true, true, false] rfl (ih107 _ _ _ _ _ _ _ _ _ _ _ hr)
        · rw [if_neg h2] at hr
          repeat' first | refine And.intro rfl ?_ | refine And.intro (Or.inl rfl) ?_ | refine And.intro (Or.inr rfl) ?_ | refine And.intro (Nat.le_of_ble_eq_true rfl) ?_ | refine And.intro (And.intro rfl rfl) ?_ | exact rfl
          exact zz_wk [true, true, false, false, true, true, true, true, false] rfl (ih107 _ _ _ _ _ _ _ _ _ _ _ hr)
    · intro l1 l2 l3 l4 l5 l6 l7 l8 I J r hr
      replace hr : zb_X12_clashesOf_107 N (zl_X12_clashesOf N n) l1 l2 l3 l4 l5 l6 l7 l8 I J = some r := hr
      unfold zb_X12_clashesOf_107 at hr
      refine zs_272_107 ?_
      repeat' first | refine And.intro rfl ?_ | refine And.intro (Or.inl rfl) ?_ | refine And.intro (Or.inr rfl) ?_ | refine And.intro (Nat.le_of_ble_eq_true rfl) ?_ | refine And.intro (And.intro rfl rfl) ?_ | exact rfl
      exact zz_wk [true, true, false, false, true, true, true, true, false] rfl (ih12 _ _ _ _ _ _ _ _ _ _ _ hr)
theorem zr_X12_clashesOf (F : zz_F) (I : Nat → Nat → Int32) (J : Nat → Nat → Int64) (d N : Nat) (l1 : Int32) (l2 : Int32) (l3 : Int32) (r : Int32 × (Nat → Nat → Int32) × (Nat → Nat → Int64)) (h : zf_X12_clashesOf N l1 l2 l3 I J = some r) : zz_run (d+2) 272 0 [some (.ref 52), some (.int (l1)), some (.int (l2)), some (.int (l3)), none, none, none, none, none] [] (zz_S F I J) (some (.int (r.1))) (zz_S F (I) (J)) := (zq_X12_clashesOf F d N N).1 l1 l2 l3 0 0 0 0 0 I J r h
def zb_X12_clashNow_0 (N : Nat) (rec : Nat → Int32 → (Nat → Nat → Int32) → (Nat → Nat → Int64) → Option (Int32 × (Nat → Nat → Int32) × (Nat → Nat → Int64))) (l1 : Int32) (I : Nat → Nat → Int32) (J : Nat → Nat → Int64) : Option (Int32 × (Nat → Nat → Int32) × (Nat → Nat → Int64)) := (zf_X12_clashesOf N l1 (I 53 14) (I 53 15) I J).bind fun r1 => some (r1.1, I, J)
def zl_X12_clashNow (N : Nat) : Nat → Nat → Int32 → (Nat → Nat → Int32) → (Nat → Nat → Int64) → Option (Int32 × (Nat → Nat → Int32) × (Nat → Nat → Int64))
  | 0 => fun _ _ _ _ => none
  | n + 1 => fun pc l1 I J => if pc = 0 then zb_X12_clashNow_0 N (zl_X12_clashNow N n) l1 I J else none
def zf_X12_clashNow (N : Nat) (l1 : Int32) (I : Nat → Nat → Int32) (J : Nat → Nat → Int64) : Option (Int32 × (Nat → Nat → Int32) × (Nat → Nat → Int64)) := zl_X12_clashNow N N 0 l1 I J
theorem zq_X12_clashNow (F : zz_F) (d N : Nat) : ∀ n : Nat, (∀ (l1 : Int32) (I : Nat → Nat → Int32) (J : Nat → Nat → Int64) (r : Int32 × (Nat → Nat → Int32) × (Nat → Nat → Int64)), zl_X12_clashNow N n 0 l1 I J = some r → zz_run (d+3) 273 0 [some (.ref 52), some (.int (l1))] [] (zz_S F I J) (some (.int (r.1))) (zz_S F (I) (J))) := by
  intro n
  induction n with
  | zero => exact fun _ _ _ _ h => zz_no h
  | succ n ih =>
    have ih0 := ih
    skip
    · intro l1 I J r hr
      replace hr : zb_X12_clashNow_0 N (zl_X12_clashNow N n) l1 I J = some r := hr
      unfold zb_X12_clashNow_0 at hr
      refine zs_273_0 ?_
      repeat' first | refine And.intro rfl ?_ | refine And.intro (Or.inl rfl) ?_ | refine And.intro (Or.inr rfl) ?_ | refine And.intro (Nat.le_of_ble_eq_true rfl) ?_ | refine And.intro (And.intro rfl rfl) ?_ | exact rfl
      refine And.intro (zz_vk (k := 14) rfl rfl) ?_
      repeat' first | refine And.intro rfl ?_ | refine And.intro (Or.inl rfl) ?_ | refine And.intro (Or.inr rfl) ?_ | refine And.intro (Nat.le_of_ble_eq_true rfl) ?_ | refine And.intro (And.intro rfl rfl) ?_ | exact rfl
      refine And.intro (zz_vk (k := 15) rfl rfl) ?_
      repeat' first | refine And.intro rfl ?_ | refine And.intro (Or.inl rfl) ?_ | refine And.intro (Or.inr rfl) ?_ | refine And.intro (Nat.le_of_ble_eq_true rfl) ?_ | refine And.intro (And.intro rfl rfl) ?_ | exact rfl
      obtain ⟨r1, cr1, hr⟩ := Option.bind_eq_some_iff.mp hr
      refine Exists.intro _ (Exists.intro _ (And.intro (zr_X12_clashesOf F I J d N l1 (I 53 14) (I 53 15) r1 cr1) ?_))
      repeat' first | refine And.intro rfl ?_ | refine And.intro (Or.inl rfl) ?_ | refine And.intro (Or.inr rfl) ?_ | refine And.intro (Nat.le_of_ble_eq_true rfl) ?_ | refine And.intro (And.intro rfl rfl) ?_ | exact rfl
      cases hr
      repeat' first | refine And.intro rfl ?_ | refine And.intro (Or.inl rfl) ?_ | refine And.intro (Or.inr rfl) ?_ | refine And.intro (Nat.le_of_ble_eq_true rfl) ?_ | refine And.intro (And.intro rfl rfl) ?_ | exact rfl
theorem zr_X12_clashNow (F : zz_F) (I : Nat → Nat → Int32) (J : Nat → Nat → Int64) (d N : Nat) (l1 : Int32) (r : Int32 × (Nat → Nat → Int32) × (Nat → Nat → Int64)) (h : zf_X12_clashNow N l1 I J = some r) : zz_run (d+3) 273 0 [some (.ref 52), some (.int (l1))] [] (zz_S F I J) (some (.int (r.1))) (zz_S F (I) (J)) := (zq_X12_clashNow F d N N) l1 I J r h
def zb_X12_clash_0 (N : Nat) (rec : Nat → Int32 → Int32 → Int32 → (Nat → Nat → Int32) → (Nat → Nat → Int64) → Option (Int32 × (Nat → Nat → Int32) × (Nat → Nat → Int64))) (l1 : Int32) (l2 : Int32) (l3 : Int32) (I : Nat → Nat → Int32) (J : Nat → Nat → Int64) : Option (Int32 × (Nat → Nat → Int32) × (Nat → Nat → Int64)) := (zf_X12_whereBits N 0 (zz_u I 52 7 0) J).bind fun r1 => (zf_X12_clashNow N r1.1 (zz_u I 52 7 0) J).bind fun r2 => rec 19 r2.1 0 0 (zz_u I 52 7 0) J
def zb_X12_clash_19 (N : Nat) (rec : Nat → Int32 → Int32 → Int32 → (Nat → Nat → Int32) → (Nat → Nat → Int64) → Option (Int32 × (Nat → Nat → Int32) × (Nat → Nat → Int64))) (l1 : Int32) (l2 : Int32) (l3 : Int32) (I : Nat → Nat → Int32) (J : Nat → Nat → Int64) : Option (Int32 × (Nat → Nat → Int32) × (Nat → Nat → Int64)) := if (I 52 1) ≤ l3 then (if ¬ (((zz_u I 52 6 0) 52 6) < 0 ∨ 20 ≤ ((zz_u I 52 6 0) 52 6).toNatClampNeg) then (if ¬ (((zw_X12_tell (zz_u I 52 6 0) J ((zv_J6_bitCount l1).toInt64)) 52 6) < 0 ∨ 20 ≤ ((zw_X12_tell (zz_u I 52 6 0) J ((zv_J6_bitCount l1).toInt64)) 52 6).toNatClampNeg) then (some (l1, zw_X12_tell (zw_X12_tell (zz_u I 52 6 0) J ((zv_J6_bitCount l1).toInt64)) (zx_X12_tell (zz_u I 52 6 0) J ((zv_J6_bitCount l1).toInt64)) l2.toInt64, zx_X12_tell (zw_X12_tell (zz_u I 52 6 0) J ((zv_J6_bitCount l1).toInt64)) (zx_X12_tell (zz_u I 52 6 0) J ((zv_J6_bitCount l1).toInt64)) l2.toInt64)) else none) else none) else (if (zv_X12_has l1 l3) = 0 then (rec 19 l1 (l2 + 0) (l3 + 1) I J) else (if ¬ (((7 * l3) + 6) < 0 ∨ 84 ≤ ((7 * l3) + 6).toNatClampNeg) then (rec 19 l1 (l2 + ((zv_X12_field I l3 6) - ((zv_X12_field I l3 6) / 2))) (l3 + 1) I J) else none))
def zl_X12_clash (N : Nat) : Nat → Nat → Int32 → Int32 → Int32 → (Nat → Nat → Int32) → (Nat → Nat → Int64) → Option (Int32 × (Nat → Nat → Int32) × (Nat → Nat → Int64))
  | 0 => fun _ _ _ _ _ _ => none
  | n + 1 => fun pc l1 l2 l3 I J => if pc = 0 then zb_X12_clash_0 N (zl_X12_clash N n) l1 l2 l3 I J else (if pc = 19 then zb_X12_clash_19 N (zl_X12_clash N n) l1 l2 l3 I J else none)
def zf_X12_clash (N : Nat)  (I : Nat → Nat → Int32) (J : Nat → Nat → Int64) : Option (Int32 × (Nat → Nat → Int32) × (Nat → Nat → Int64)) := zl_X12_clash N N 0 0 0 0 I J
theorem zq_X12_clash (F : zz_F) (d N : Nat) : ∀ n : Nat, (∀ (l1 : Int32) (l2 : Int32) (l3 : Int32) (I : Nat → Nat → Int32) (J : Nat → Nat → Int64) (r : Int32 × (Nat → Nat → Int32) × (Nat → Nat → Int64)), zl_X12_clash N n 0 l1 l2 l3 I J = some r → zz_run (d+4) 274 0 [some (.ref 52), none, none, none] [] (zz_S F I J) (some (.int (r.1))) (zz_S F (r.2.1) (r.2.2))) ∧ (∀ (l1 : Int32) (l2 : Int32) (l3 : Int32) (I : Nat → Nat → Int32) (J : Nat → Nat → Int64) (r : Int32 × (Nat → Nat → Int32) × (Nat → Nat → Int64)), zl_X12_clash N n 19 l1 l2 l3 I J = some r → zz_run (d+4) 274 19 [some (.ref 52), some (.int (l1)), some (.int (l2)), some (.int (l3))] [] (zz_S F I J) (some (.int (r.1))) (zz_S F (r.2.1) (r.2.2))) := by
  intro n
  induction n with
  | zero => exact ⟨fun _ _ _ _ _ _ h => zz_no h, fun _ _ _ _ _ _ h => zz_no h⟩
  | succ n ih =>
    obtain ⟨ih0, ih19⟩ := ih
    refine ⟨?_, ?_⟩
    · intro l1 l2 l3 I J r hr
      replace hr : zb_X12_clash_0 N (zl_X12_clash N n) l1 l2 l3 I J = some r := hr
      unfold zb_X12_clash_0 at hr
      refine zs_274_0 ?_
      repeat' first | refine And.intro rfl ?_ | refine And.intro (Or.inl rfl) ?_ | refine And.intro (Or.inr rfl) ?_ | refine And.intro (Nat.le_of_ble_eq_true rfl) ?_ | refine And.intro (And.intro rfl rfl) ?_ | exact rfl
      obtain ⟨r1, cr1, hr⟩ := Option.bind_eq_some_iff.mp hr
      refine Exists.intro _ (Exists.intro _ (And.intro (zr_X12_whereBits F (zz_u I 52 7 0) J (d+3) N 0 r1 cr1) ?_))
      repeat' first | refine And.intro rfl ?_ | refine And.intro (Or.inl rfl) ?_ | refine And.intro (Or.inr rfl) ?_ | refine And.intro (Nat.le_of_ble_eq_true rfl) ?_ | refine And.intro (And.intro rfl rfl) ?_ | exact rfl
      obtain ⟨r2, cr2, hr⟩ := Option.bind_eq_some_iff.mp hr
      refine Exists.intro _ (Exists.intro _ (And.intro (zr_X12_clashNow F (zz_u I 52 7 0) J d N r1.1 r2 cr2) ?_))
      repeat' first | refine And.intro rfl ?_ | refine And.intro (Or.inl rfl) ?_ | refine And.intro (Or.inr rfl) ?_ | refine And.intro (Nat.le_of_ble_eq_true rfl) ?_ | refine And.intro (And.intro rfl rfl) ?_ | exact rfl
      exact zz_wk [true, true, true, true] rfl (ih19 _ _ _ _ _ _ hr)
    · intro l1 l2 l3 I J r hr
      replace hr : zb_X12_clash_19 N (zl_X12_clash N n) l1 l2 l3 I J = some r := hr
      unfold zb_X12_clash_19 at hr
      refine zs_274_19 ?_
      repeat' first | refine And.intro rfl ?_ | refine And.intro (Or.inl rfl) ?_ | refine And.intro (Or.inr rfl) ?_ | refine And.intro (Nat.le_of_ble_eq_true rfl) ?_ | refine And.intro (And.intro rfl rfl) ?_ | exact rfl
      refine And.intro (fun (h1 : (I 52 1) ≤ l3) => ?_) (fun (h1 : ¬ ((I 52 1) ≤ l3)) => ?_)
      · rw [if_pos h1] at hr
        refine zs_274_65 ?_
        repeat' first | refine And.intro rfl ?_ | refine And.intro (Or.inl rfl) ?_ | refine And.intro (Or.inr rfl) ?_ | refine And.intro (Nat.le_of_ble_eq_true rfl) ?_ | refine And.intro (And.intro rfl rfl) ?_ | exact rfl
        refine Exists.intro _ (Exists.intro _ (And.intro (zr_J6_bitCount F (zz_u I 52 6 0) J (d+3) l1) ?_))
        repeat' first | refine And.intro rfl ?_ | refine And.intro (Or.inl rfl) ?_ | refine And.intro (Or.inr rfl) ?_ | refine And.intro (Nat.le_of_ble_eq_true rfl) ?_ | refine And.intro (And.intro rfl rfl) ?_ | exact rfl
        have g3 : ¬ (((zz_u I 52 6 0) 52 6) < 0 ∨ 20 ≤ ((zz_u I 52 6 0) 52 6).toNatClampNeg) := zz_g hr
        replace hr := zz_gt hr
        refine Exists.intro _ (Exists.intro _ (And.intro (zr_X12_tell F (zz_u I 52 6 0) J (d+3) ((zv_J6_bitCount l1).toInt64) g3) ?_))
        repeat' first | refine And.intro rfl ?_ | refine And.intro (Or.inl rfl) ?_ | refine And.intro (Or.inr rfl) ?_ | refine And.intro (Nat.le_of_ble_eq_true rfl) ?_ | refine And.intro (And.intro rfl rfl) ?_ | exact rfl
        have g4 : ¬ (((zw_X12_tell (zz_u I 52 6 0) J ((zv_J6_bitCount l1).toInt64)) 52 6) < 0 ∨ 20 ≤ ((zw_X12_tell (zz_u I 52 6 0) J ((zv_J6_bitCount l1).toInt64)) 52 6).toNatClampNeg) := zz_g hr
        replace hr := zz_gt hr
        refine Exists.intro _ (Exists.intro _ (And.intro (zr_X12_tell F (zw_X12_tell (zz_u I 52 6 0) J ((zv_J6_bitCount l1).toInt64)) (zx_X12_tell (zz_u I 52 6 0) J ((zv_J6_bitCount l1).toInt64)) (d+3) l2.toInt64 g4) ?_))
        repeat' first | refine And.intro rfl ?_ | refine And.intro (Or.inl rfl) ?_ | refine And.intro (Or.inr rfl) ?_ | refine And.intro (Nat.le_of_ble_eq_true rfl) ?_ | refine And.intro (And.intro rfl rfl) ?_ | exact rfl
        cases hr
        repeat' first | refine And.intro rfl ?_ | refine And.intro (Or.inl rfl) ?_ | refine And.intro (Or.inr rfl) ?_ | refine And.intro (Nat.le_of_ble_eq_true rfl) ?_ | refine And.intro (And.intro rfl rfl) ?_ | exact rfl
      · rw [if_neg h1] at hr
        repeat' first | refine And.intro rfl ?_ | refine And.intro (Or.inl rfl) ?_ | refine And.intro (Or.inr rfl) ?_ | refine And.intro (Nat.le_of_ble_eq_true rfl) ?_ | refine And.intro (And.intro rfl rfl) ?_ | exact rfl
        refine Exists.intro _ (Exists.intro _ (And.intro (zr_X12_has F I J (d+3) l1 l3) ?_))
        repeat' first | refine And.intro rfl ?_ | refine And.intro (Or.inl rfl) ?_ | refine And.intro (Or.inr rfl) ?_ | refine And.intro (Nat.le_of_ble_eq_true rfl) ?_ | refine And.intro (And.intro rfl rfl) ?_ | exact rfl
        refine And.intro (fun (h2 : (zv_X12_has l1 l3) = 0) => ?_) (fun (h2 : ¬ ((zv_X12_has l1 l3) = 0)) => ?_)
        · rw [if_pos h2] at hr
          refine zs_274_56 ?_
          repeat' first | refine And.intro rfl ?_ | refine And.intro (Or.inl rfl) ?_ | refine And.intro (Or.inr rfl) ?_ | refine And.intro (Nat.le_of_ble_eq_true rfl) ?_ | refine And.intro (And.intro rfl rfl) ?_ | exact rfl
          refine zs_274_57 ?_
          repeat' first | refine And.intro rfl ?_ | refine And.intro (Or.inl rfl) ?_ | refine And.intro (Or.inr rfl) ?_ | refine And.intro (Nat.le_of_ble_eq_true rfl) ?_ | refine And.intro (And.intro rfl rfl) ?_ | exact rfl
          exact zz_wk [true, true, true, true] rfl (ih19 _ _ _ _ _ _ hr)
        · rw [if_neg h2] at hr
          repeat' first | refine And.intro rfl ?_ | refine And.intro (Or.inl rfl) ?_ | refine And.intro (Or.inr rfl) ?_ | refine And.intro (Nat.le_of_ble_eq_true rfl) ?_ | refine And.intro (And.intro rfl rfl) ?_ | exact rfl
          have g5 : ¬ (((7 * l3) + 6) < 0 ∨ 84 ≤ ((7 * l3) + 6).toNatClampNeg) := zz_g hr
          replace hr := zz_gt hr
          refine Exists.intro _ (Exists.intro _ (And.intro (zr_X12_field F I J (d+3) l3 6 g5) ?_))
          repeat' first | refine And.intro rfl ?_ | refine And.intro (Or.inl rfl) ?_ | refine And.intro (Or.inr rfl) ?_ | refine And.intro (Nat.le_of_ble_eq_true rfl) ?_ | refine And.intro (And.intro rfl rfl) ?_ | exact rfl
          refine Exists.intro _ (Exists.intro _ (And.intro (zr_X12_field F I J (d+3) l3 6 g5) ?_))
          repeat' first | refine And.intro rfl ?_ | refine And.intro (Or.inl rfl) ?_ | refine And.intro (Or.inr rfl) ?_ | refine And.intro (Nat.le_of_ble_eq_true rfl) ?_ | refine And.intro (And.intro rfl rfl) ?_ | exact rfl
          refine And.intro ((by decide : ¬ (2 : Int32) = 0)) ?_
          repeat' first | refine And.intro rfl ?_ | refine And.intro (Or.inl rfl) ?_ | refine And.intro (Or.inr rfl) ?_ | refine And.intro (Nat.le_of_ble_eq_true rfl) ?_ | refine And.intro (And.intro rfl rfl) ?_ | exact rfl
          refine zs_274_57 ?_
          repeat' first | refine And.intro rfl ?_ | refine And.intro (Or.inl rfl) ?_ | refine And.intro (Or.inr rfl) ?_ | refine And.intro (Nat.le_of_ble_eq_true rfl) ?_ | refine And.intro (And.intro rfl rfl) ?_ | exact rfl
          exact zz_wk [true, true, true, true] rfl (ih19 _ _ _ _ _ _ hr)
theorem zr_X12_clash (F : zz_F) (I : Nat → Nat → Int32) (J : Nat → Nat → Int64) (d N : Nat)  (r : Int32 × (Nat → Nat → Int32) × (Nat → Nat → Int64)) (h : zf_X12_clash N  I J = some r) : zz_run (d+4) 274 0 [some (.ref 52), none, none, none] [] (zz_S F I J) (some (.int (r.1))) (zz_S F (r.2.1) (r.2.2)) := (zq_X12_clash F d N N).1 0 0 0 I J r h
def zb_X12_mend_0 (N : Nat) (rec : Nat → Int32 → Int32 → Int32 → Int32 → (Nat → Nat → Int32) → (Nat → Nat → Int64) → Option (Int32 × (Nat → Nat → Int32) × (Nat → Nat → Int64))) (l1 : Int32) (l2 : Int32) (l3 : Int32) (l4 : Int32) (I : Nat → Nat → Int32) (J : Nat → Nat → Int64) : Option (Int32 × (Nat → Nat → Int32) × (Nat → Nat → Int64)) := (zf_X12_whereBits N 0 (zz_u I 52 7 0) J).bind fun r1 => (zf_X12_clashNow N r1.1 (zz_u I 52 7 0) J).bind fun r2 => rec 22 r2.1 0 0 0 (zz_u I 52 7 0) J
def zb_X12_mend_22 (N : Nat) (rec : Nat → Int32 → Int32 → Int32 → Int32 → (Nat → Nat → Int32) → (Nat → Nat → Int64) → Option (Int32 × (Nat → Nat → Int32) × (Nat → Nat → Int64))) (l1 : Int32) (l2 : Int32) (l3 : Int32) (l4 : Int32) (I : Nat → Nat → Int32) (J : Nat → Nat → Int64) : Option (Int32 × (Nat → Nat → Int32) × (Nat → Nat → Int64)) := if (I 52 1) ≤ l4 then (if ¬ (((zz_u I 52 6 0) 52 6) < 0 ∨ 20 ≤ ((zz_u I 52 6 0) 52 6).toNatClampNeg) then (if ¬ (((zw_X12_tell (zz_u I 52 6 0) J l2.toInt64) 52 6) < 0 ∨ 20 ≤ ((zw_X12_tell (zz_u I 52 6 0) J l2.toInt64) 52 6).toNatClampNeg) then (some ((zv_J6_bitCount l2) + (zv_J6_bitCount l3), zw_X12_tell (zw_X12_tell (zz_u I 52 6 0) J l2.toInt64) (zx_X12_tell (zz_u I 52 6 0) J l2.toInt64) l3.toInt64, zx_X12_tell (zw_X12_tell (zz_u I 52 6 0) J l2.toInt64) (zx_X12_tell (zz_u I 52 6 0) J l2.toInt64) l3.toInt64)) else none) else none) else (if ¬ (zv_X12_has l1 l4) = 0 then (if ¬ (((7 * l4) + 0) < 0 ∨ 84 ≤ ((7 * l4) + 0).toNatClampNeg) then (if ¬ (zv_X12_playOf I l4) = 0 then (if ¬ (((7 * l4) + 5) < 0 ∨ 84 ≤ ((7 * l4) + 5).toNatClampNeg) then (rec 22 l1 l2 (l3 ||| ((1 : Int32) <<< ((zv_X12_field I l4 5) &&& 31))) (l4 + 1) I J) else none) else (if ¬ (((7 * l4) + 5) < 0 ∨ 84 ≤ ((7 * l4) + 5).toNatClampNeg) then (rec 22 l1 (l2 ||| ((1 : Int32) <<< ((zv_X12_field I l4 5) &&& 31))) l3 (l4 + 1) I J) else none)) else none) else (rec 22 l1 l2 l3 (l4 + 1) I J))
def zl_X12_mend (N : Nat) : Nat → Nat → Int32 → Int32 → Int32 → Int32 → (Nat → Nat → Int32) → (Nat → Nat → Int64) → Option (Int32 × (Nat → Nat → Int32) × (Nat → Nat → Int64))
  | 0 => fun _ _ _ _ _ _ _ => none
  | n + 1 => fun pc l1 l2 l3 l4 I J => if pc = 0 then zb_X12_mend_0 N (zl_X12_mend N n) l1 l2 l3 l4 I J else (if pc = 22 then zb_X12_mend_22 N (zl_X12_mend N n) l1 l2 l3 l4 I J else none)
def zf_X12_mend (N : Nat)  (I : Nat → Nat → Int32) (J : Nat → Nat → Int64) : Option (Int32 × (Nat → Nat → Int32) × (Nat → Nat → Int64)) := zl_X12_mend N N 0 0 0 0 0 I J
theorem zq_X12_mend (F : zz_F) (d N : Nat) : ∀ n : Nat, (∀ (l1 : Int32) (l2 : Int32) (l3 : Int32) (l4 : Int32) (I : Nat → Nat → Int32) (J : Nat → Nat → Int64) (r : Int32 × (Nat → Nat → Int32) × (Nat → Nat → Int64)), zl_X12_mend N n 0 l1 l2 l3 l4 I J = some r → zz_run (d+4) 275 0 [some (.ref 52), none, none, none, none] [] (zz_S F I J) (some (.int (r.1))) (zz_S F (r.2.1) (r.2.2))) ∧ (∀ (l1 : Int32) (l2 : Int32) (l3 : Int32) (l4 : Int32) (I : Nat → Nat → Int32) (J : Nat → Nat → Int64) (r : Int32 × (Nat → Nat → Int32) × (Nat → Nat → Int64)), zl_X12_mend N n 22 l1 l2 l3 l4 I J = some r → zz_run (d+4) 275 22 [some (.ref 52), some (.int (l1)), some (.int (l2)), some (.int (l3)), some (.int (l4))] [] (zz_S F I J) (some (.int (r.1))) (zz_S F (r.2.1) (r.2.2))) := by
  intro n
  induction n with
  | zero => exact ⟨fun _ _ _ _ _ _ _ h => zz_no h, fun _ _ _ _ _ _ _ h => zz_no h⟩
  | succ n ih =>
    obtain ⟨ih0, ih22⟩ := ih
    refine ⟨?_, ?_⟩
    · intro l1 l2 l3 l4 I J r hr
      replace hr : zb_X12_mend_0 N (zl_X12_mend N n) l1 l2 l3 l4 I J = some r := hr
      unfold zb_X12_mend_0 at hr
      refine zs_275_0 ?_
      repeat' first | refine And.intro rfl ?_ | refine And.intro (Or.inl rfl) ?_ | refine And.intro (Or.inr rfl) ?_ | refine And.intro (Nat.le_of_ble_eq_true rfl) ?_ | refine And.intro (And.intro rfl rfl) ?_ | exact rfl
      obtain ⟨r1, cr1, hr⟩ := Option.bind_eq_some_iff.mp hr
      refine Exists.intro _ (Exists.intro _ (And.intro (zr_X12_whereBits F (zz_u I 52 7 0) J (d+3) N 0 r1 cr1) ?_))
      repeat' first | refine And.intro rfl ?_ | refine And.intro (Or.inl rfl) ?_ | refine And.intro (Or.inr rfl) ?_ | refine And.intro (Nat.le_of_ble_eq_true rfl) ?_ | refine And.intro (And.intro rfl rfl) ?_ | exact rfl
      obtain ⟨r2, cr2, hr⟩ := Option.bind_eq_some_iff.mp hr
      refine Exists.intro _ (Exists.intro _ (And.intro (zr_X12_clashNow F (zz_u I 52 7 0) J d N r1.1 r2 cr2) ?_))
      repeat' first | refine And.intro rfl ?_ | refine And.intro (Or.inl rfl) ?_ | refine And.intro (Or.inr rfl) ?_ | refine And.intro (Nat.le_of_ble_eq_true rfl) ?_ | refine And.intro (And.intro rfl rfl) ?_ | exact rfl
      exact zz_wk [true, true, true, true, true] rfl (ih22 _ _ _ _ _ _ _ hr)
    · intro l1 l2 l3 l4 I J r hr
      replace hr : zb_X12_mend_22 N (zl_X12_mend N n) l1 l2 l3 l4 I J = some r := hr
      unfold zb_X12_mend_22 at hr
      refine zs_275_22 ?_
      repeat' first | refine And.intro rfl ?_ | refine And.intro (Or.inl rfl) ?_ | refine And.intro (Or.inr rfl) ?_ | refine And.intro (Nat.le_of_ble_eq_true rfl) ?_ | refine And.intro (And.intro rfl rfl) ?_ | exact rfl
      refine And.intro (fun (h1 : (I 52 1) ≤ l4) => ?_) (fun (h1 : ¬ ((I 52 1) ≤ l4)) => ?_)
      · rw [if_pos h1] at hr
        refine zs_275_85 ?_
        repeat' first | refine And.intro rfl ?_ | refine And.intro (Or.inl rfl) ?_ | refine And.intro (Or.inr rfl) ?_ | refine And.intro (Nat.le_of_ble_eq_true rfl) ?_ | refine And.intro (And.intro rfl rfl) ?_ | exact rfl
        have g3 : ¬ (((zz_u I 52 6 0) 52 6) < 0 ∨ 20 ≤ ((zz_u I 52 6 0) 52 6).toNatClampNeg) := zz_g hr
        replace hr := zz_gt hr
        refine Exists.intro _ (Exists.intro _ (And.intro (zr_X12_tell F (zz_u I 52 6 0) J (d+3) l2.toInt64 g3) ?_))
        repeat' first | refine And.intro rfl ?_ | refine And.intro (Or.inl rfl) ?_ | refine And.intro (Or.inr rfl) ?_ | refine And.intro (Nat.le_of_ble_eq_true rfl) ?_ | refine And.intro (And.intro rfl rfl) ?_ | exact rfl
        have g4 : ¬ (((zw_X12_tell (zz_u I 52 6 0) J l2.toInt64) 52 6) < 0 ∨ 20 ≤ ((zw_X12_tell (zz_u I 52 6 0) J l2.toInt64) 52 6).toNatClampNeg) := zz_g hr
        replace hr := zz_gt hr
        refine Exists.intro _ (Exists.intro _ (And.intro (zr_X12_tell F (zw_X12_tell (zz_u I 52 6 0) J l2.toInt64) (zx_X12_tell (zz_u I 52 6 0) J l2.toInt64) (d+3) l3.toInt64 g4) ?_))
        repeat' first | refine And.intro rfl ?_ | refine And.intro (Or.inl rfl) ?_ | refine And.intro (Or.inr rfl) ?_ | refine And.intro (Nat.le_of_ble_eq_true rfl) ?_ | refine And.intro (And.intro rfl rfl) ?_ | exact rfl
        refine Exists.intro _ (Exists.intro _ (And.intro (zr_J6_bitCount F (zw_X12_tell (zw_X12_tell (zz_u I 52 6 0) J l2.toInt64) (zx_X12_tell (zz_u I 52 6 0) J l2.toInt64) l3.toInt64) (zx_X12_tell (zw_X12_tell (zz_u I 52 6 0) J l2.toInt64) (zx_X12_tell (zz_u I 52 6 0) J l2.toInt64) l3.toInt64) (d+3) l2) ?_))
        repeat' first | refine And.intro rfl ?_ | refine And.intro (Or.inl rfl) ?_ | refine And.intro (Or.inr rfl) ?_ | refine And.intro (Nat.le_of_ble_eq_true rfl) ?_ | refine And.intro (And.intro rfl rfl) ?_ | exact rfl
        refine Exists.intro _ (Exists.intro _ (And.intro (zr_J6_bitCount F (zw_X12_tell (zw_X12_tell (zz_u I 52 6 0) J l2.toInt64) (zx_X12_tell (zz_u I 52 6 0) J l2.toInt64) l3.toInt64) (zx_X12_tell (zw_X12_tell (zz_u I 52 6 0) J l2.toInt64) (zx_X12_tell (zz_u I 52 6 0) J l2.toInt64) l3.toInt64) (d+3) l3) ?_))
        repeat' first | refine And.intro rfl ?_ | refine And.intro (Or.inl rfl) ?_ | refine And.intro (Or.inr rfl) ?_ | refine And.intro (Nat.le_of_ble_eq_true rfl) ?_ | refine And.intro (And.intro rfl rfl) ?_ | exact rfl
        cases hr
        repeat' first | refine And.intro rfl ?_ | refine And.intro (Or.inl rfl) ?_ | refine And.intro (Or.inr rfl) ?_ | refine And.intro (Nat.le_of_ble_eq_true rfl) ?_ | refine And.intro (And.intro rfl rfl) ?_ | exact rfl
      · rw [if_neg h1] at hr
        repeat' first | refine And.intro rfl ?_ | refine And.intro (Or.inl rfl) ?_ | refine And.intro (Or.inr rfl) ?_ | refine And.intro (Nat.le_of_ble_eq_true rfl) ?_ | refine And.intro (And.intro rfl rfl) ?_ | exact rfl
        refine Exists.intro _ (Exists.intro _ (And.intro (zr_X12_has F I J (d+3) l1 l4) ?_))
        repeat' first | refine And.intro rfl ?_ | refine And.intro (Or.inl rfl) ?_ | refine And.intro (Or.inr rfl) ?_ | refine And.intro (Nat.le_of_ble_eq_true rfl) ?_ | refine And.intro (And.intro rfl rfl) ?_ | exact rfl
        refine And.intro (fun (h2 : ¬ (zv_X12_has l1 l4) = 0) => ?_) (fun (h2 : ¬ (¬ (zv_X12_has l1 l4) = 0)) => ?_)
        · rw [if_pos h2] at hr
          refine zs_275_43 ?_
          repeat' first | refine And.intro rfl ?_ | refine And.intro (Or.inl rfl) ?_ | refine And.intro (Or.inr rfl) ?_ | refine And.intro (Nat.le_of_ble_eq_true rfl) ?_ | refine And.intro (And.intro rfl rfl) ?_ | exact rfl
          have g5 : ¬ (((7 * l4) + 0) < 0 ∨ 84 ≤ ((7 * l4) + 0).toNatClampNeg) := zz_g hr
          replace hr := zz_gt hr
          refine Exists.intro _ (Exists.intro _ (And.intro (zr_X12_playOf F I J (d+2) l4 g5) ?_))
          repeat' first | refine And.intro rfl ?_ | refine And.intro (Or.inl rfl) ?_ | refine And.intro (Or.inr rfl) ?_ | refine And.intro (Nat.le_of_ble_eq_true rfl) ?_ | refine And.intro (And.intro rfl rfl) ?_ | exact rfl
          refine And.intro (fun (h3 : ¬ (zv_X12_playOf I l4) = 0) => ?_) (fun (h3 : ¬ (¬ (zv_X12_playOf I l4) = 0)) => ?_)
          · rw [if_pos h3] at hr
            refine zs_275_67 ?_
            repeat' first | refine And.intro rfl ?_ | refine And.intro (Or.inl rfl) ?_ | refine And.intro (Or.inr rfl) ?_ | refine And.intro (Nat.le_of_ble_eq_true rfl) ?_ | refine And.intro (And.intro rfl rfl) ?_ | exact rfl
            have g6 : ¬ (((7 * l4) + 5) < 0 ∨ 84 ≤ ((7 * l4) + 5).toNatClampNeg) := zz_g hr
            replace hr := zz_gt hr
            refine Exists.intro _ (Exists.intro _ (And.intro (zr_X12_field F I J (d+3) l4 5 g6) ?_))
            repeat' first | refine And.intro rfl ?_ | refine And.intro (Or.inl rfl) ?_ | refine And.intro (Or.inr rfl) ?_ | refine And.intro (Nat.le_of_ble_eq_true rfl) ?_ | refine And.intro (And.intro rfl rfl) ?_ | exact rfl
            refine zs_275_79 ?_
            repeat' first | refine And.intro rfl ?_ | refine And.intro (Or.inl rfl) ?_ | refine And.intro (Or.inr rfl) ?_ | refine And.intro (Nat.le_of_ble_eq_true rfl) ?_ | refine And.intro (And.intro rfl rfl) ?_ | exact rfl
            exact zz_wk [true, true, true, true, true] rfl (ih22 _ _ _ _ _ _ _ hr)
          · rw [if_neg h3] at hr
            repeat' first | refine And.intro rfl ?_ | refine And.intro (Or.inl rfl) ?_ | refine And.intro (Or.inr rfl) ?_ | refine And.intro (Nat.le_of_ble_eq_true rfl) ?_ | refine And.intro (And.intro rfl rfl) ?_ | exact rfl
            have g7 : ¬ (((7 * l4) + 5) < 0 ∨ 84 ≤ ((7 * l4) + 5).toNatClampNeg) := zz_g hr
            replace hr := zz_gt hr
            refine Exists.intro _ (Exists.intro _ (And.intro (zr_X12_field F I J (d+3) l4 5 g7) ?_))
            repeat' first | refine And.intro rfl ?_ | refine And.intro (Or.inl rfl) ?_ | refine And.intro (Or.inr rfl) ?_ | refine And.intro (Nat.le_of_ble_eq_true rfl) ?_ | refine And.intro (And.intro rfl rfl) ?_ | exact rfl
            refine zs_275_79 ?_
            repeat' first | refine And.intro rfl ?_ | refine And.intro (Or.inl rfl) ?_ | refine And.intro (Or.inr rfl) ?_ | refine And.intro (Nat.le_of_ble_eq_true rfl) ?_ | refine And.intro (And.intro rfl rfl) ?_ | exact rfl
            exact zz_wk [true, true, true, true, true] rfl (ih22 _ _ _ _ _ _ _ hr)
        · rw [if_neg h2] at hr
          repeat' first | refine And.intro rfl ?_ | refine And.intro (Or.inl rfl) ?_ | refine And.intro (Or.inr rfl) ?_ | refine And.intro (Nat.le_of_ble_eq_true rfl) ?_ | refine And.intro (And.intro rfl rfl) ?_ | exact rfl
          refine zs_275_79 ?_
          repeat' first | refine And.intro rfl ?_ | refine And.intro (Or.inl rfl) ?_ | refine And.intro (Or.inr rfl) ?_ | refine And.intro (Nat.le_of_ble_eq_true rfl) ?_ | refine And.intro (And.intro rfl rfl) ?_ | exact rfl
          exact zz_wk [true, true, true, true, true] rfl (ih22 _ _ _ _ _ _ _ hr)
theorem zr_X12_mend (F : zz_F) (I : Nat → Nat → Int32) (J : Nat → Nat → Int64) (d N : Nat)  (r : Int32 × (Nat → Nat → Int32) × (Nat → Nat → Int64)) (h : zf_X12_mend N  I J = some r) : zz_run (d+4) 275 0 [some (.ref 52), none, none, none, none] [] (zz_S F I J) (some (.int (r.1))) (zz_S F (r.2.1) (r.2.2)) := (zq_X12_mend F d N N).1 0 0 0 0 I J r h
