/-! printed by wip/whole/loop2.py -/
def zb_X12_tellPart_0 (N : Nat) (rec : Nat → Int64 → Int64 → (Nat → Nat → Int32) → (Nat → Nat → Int64) → Option (Int32 × (Nat → Nat → Int32) × (Nat → Nat → Int64))) (m1 : Int64) (m3 : Int64) (I : Nat → Nat → Int32) (J : Nat → Nat → Int64) : Option (Int32 × (Nat → Nat → Int32) × (Nat → Nat → Int64)) := (zf_X12_common_ N m1 m3 I J).bind fun r1 => if ¬ r1.1 = 0 then (if ¬ (((zz_u r1.2.1 52 6 0) 52 6) < 0 ∨ 20 ≤ ((zz_u r1.2.1 52 6 0) 52 6).toNatClampNeg) then (if ¬ (((zw_X12_tell (zz_u r1.2.1 52 6 0) r1.2.2 (m1 / r1.1)) 52 6) < 0 ∨ 20 ≤ ((zw_X12_tell (zz_u r1.2.1 52 6 0) r1.2.2 (m1 / r1.1)) 52 6).toNatClampNeg) then ((some (zw_X12_tell (zw_X12_tell (zz_u r1.2.1 52 6 0) r1.2.2 (m1 / r1.1)) (zx_X12_tell (zz_u r1.2.1 52 6 0) r1.2.2 (m1 / r1.1)) (m3 / r1.1))).bind fun i5 => some (0, i5, zx_X12_tell (zw_X12_tell (zz_u r1.2.1 52 6 0) r1.2.2 (m1 / r1.1)) (zx_X12_tell (zz_u r1.2.1 52 6 0) r1.2.2 (m1 / r1.1)) (m3 / r1.1))) else none) else none) else none
def zl_X12_tellPart (N : Nat) : Nat → Nat → Int64 → Int64 → (Nat → Nat → Int32) → (Nat → Nat → Int64) → Option (Int32 × (Nat → Nat → Int32) × (Nat → Nat → Int64))
  | 0 => fun _ _ _ _ _ => none
  | n + 1 => fun pc m1 m3 I J => if pc = 0 then zb_X12_tellPart_0 N (zl_X12_tellPart N n) m1 m3 I J else none
theorem ze_X12_tellPart_0 (N : Nat) (n : Nat) (m1 : Int64) (m3 : Int64) (I : Nat → Nat → Int32) (J : Nat → Nat → Int64) : zl_X12_tellPart N (n+1) 0 m1 m3 I J = zb_X12_tellPart_0 N (zl_X12_tellPart N n) m1 m3 I J := by
  show (if 0 = 0 then zb_X12_tellPart_0 N (zl_X12_tellPart N n) m1 m3 I J else none) = _
  rw [if_pos rfl]
def zf_X12_tellPart (N : Nat) (m1 : Int64) (m3 : Int64) (I : Nat → Nat → Int32) (J : Nat → Nat → Int64) : Option (Int32 × (Nat → Nat → Int32) × (Nat → Nat → Int64)) := zl_X12_tellPart N N 0 m1 m3 I J
theorem zq_X12_tellPart (F : zz_F) (d N : Nat) : ∀ n : Nat, (∀ (m1 : Int64) (m3 : Int64) (I : Nat → Nat → Int32) (J : Nat → Nat → Int64) (r : Int32 × (Nat → Nat → Int32) × (Nat → Nat → Int64)), zl_X12_tellPart N n 0 m1 m3 I J = some r → zz_run (d+65) 286 0 [some (.ref 52), some (.long m1), none, some (.long m3), none, none, none] [] (zz_S F I J) none (zz_S F (r.2.1) (r.2.2))) := by
  intro n
  induction n with
  | zero => exact fun _ _ _ _ _ h => zz_no h
  | succ n ih =>
    have ih0 := ih
    skip
    · intro m1 m3 I J r hr
      rw [ze_X12_tellPart_0] at hr
      unfold zb_X12_tellPart_0 at hr
      refine zs_286_0 ?_
      refine And.intro (Nat.le_of_ble_eq_true rfl) (And.intro (Nat.le_of_ble_eq_true rfl) (And.intro (Nat.le_of_ble_eq_true rfl) ?_))
      obtain ⟨r1, cr1, hr⟩ := Option.bind_eq_some_iff.mp hr
      refine Exists.intro _ (Exists.intro _ (And.intro (zr_X12_common_ F I J d N m1 m3 r1 cr1) ?_))
      refine And.intro (rfl) (And.intro (rfl) (And.intro (And.intro rfl rfl) ?_))
      have g2 : ¬ r1.1 = 0 := zz_g hr
      replace hr := zz_gt hr
      refine And.intro (g2) (And.intro (rfl) (And.intro (Nat.le_of_ble_eq_true rfl) (And.intro (Nat.le_of_ble_eq_true rfl) (And.intro (Nat.le_of_ble_eq_true rfl) ?_))))
      have g3 : ¬ (((zz_u r1.2.1 52 6 0) 52 6) < 0 ∨ 20 ≤ ((zz_u r1.2.1 52 6 0) 52 6).toNatClampNeg) := zz_g hr
      replace hr := zz_gt hr
      refine Exists.intro _ (Exists.intro _ (And.intro (zr_X12_tell F (zz_u r1.2.1 52 6 0) r1.2.2 (d+64) (m1 / r1.1) g3) ?_))
      refine And.intro (g2) (And.intro (rfl) (And.intro (Nat.le_of_ble_eq_true rfl) (And.intro (Nat.le_of_ble_eq_true rfl) (And.intro (Nat.le_of_ble_eq_true rfl) ?_))))
      have g4 : ¬ (((zw_X12_tell (zz_u r1.2.1 52 6 0) r1.2.2 (m1 / r1.1)) 52 6) < 0 ∨ 20 ≤ ((zw_X12_tell (zz_u r1.2.1 52 6 0) r1.2.2 (m1 / r1.1)) 52 6).toNatClampNeg) := zz_g hr
      replace hr := zz_gt hr
      obtain ⟨i5, ci5, hr⟩ := Option.bind_eq_some_iff.mp hr
      refine Exists.intro _ (Exists.intro _ (And.intro (zz_bi ci5 (zr_X12_tell F (zw_X12_tell (zz_u r1.2.1 52 6 0) r1.2.2 (m1 / r1.1)) (zx_X12_tell (zz_u r1.2.1 52 6 0) r1.2.2 (m1 / r1.1)) (d+64) (m3 / r1.1) g4)) ?_))
      replace hr := Option.some.inj hr
      subst hr
      exact And.intro rfl (And.intro rfl rfl)
theorem zr_X12_tellPart (F : zz_F) (I : Nat → Nat → Int32) (J : Nat → Nat → Int64) (d N : Nat) (m1 : Int64) (m3 : Int64) (r : Int32 × (Nat → Nat → Int32) × (Nat → Nat → Int64)) (h : zf_X12_tellPart N m1 m3 I J = some r) : zz_run (d+65) 286 0 [some (.ref 52), some (.long m1), none, some (.long m3), none, none, none] [] (zz_S F I J) none (zz_S F (r.2.1) (r.2.2)) := (zq_X12_tellPart F d N N) m1 m3 I J r h
def zb_X12_power_0 (N : Nat) (rec : Nat → Int64 → Int32 → Int64 → Int32 → (Nat → Nat → Int32) → (Nat → Nat → Int64) → Option (Int64 × (Nat → Nat → Int32) × (Nat → Nat → Int64))) (m0 : Int64) (l2 : Int32) (m3 : Int64) (l5 : Int32) (I : Nat → Nat → Int32) (J : Nat → Nat → Int64) : Option (Int64 × (Nat → Nat → Int32) × (Nat → Nat → Int64)) := rec 5 m0 l2 1 0 I J
def zb_X12_power_5 (N : Nat) (rec : Nat → Int64 → Int32 → Int64 → Int32 → (Nat → Nat → Int32) → (Nat → Nat → Int64) → Option (Int64 × (Nat → Nat → Int32) × (Nat → Nat → Int64))) (m0 : Int64) (l2 : Int32) (m3 : Int64) (l5 : Int32) (I : Nat → Nat → Int32) (J : Nat → Nat → Int64) : Option (Int64 × (Nat → Nat → Int32) × (Nat → Nat → Int64)) := if l2 ≤ l5 then (some (m3, I, J)) else (rec 5 m0 l2 (m3 * m0) (l5 + 1) I J)
def zl_X12_power (N : Nat) : Nat → Nat → Int64 → Int32 → Int64 → Int32 → (Nat → Nat → Int32) → (Nat → Nat → Int64) → Option (Int64 × (Nat → Nat → Int32) × (Nat → Nat → Int64))
  | 0 => fun _ _ _ _ _ _ _ => none
  | n + 1 => fun pc m0 l2 m3 l5 I J => if pc = 0 then zb_X12_power_0 N (zl_X12_power N n) m0 l2 m3 l5 I J else (if pc = 5 then zb_X12_power_5 N (zl_X12_power N n) m0 l2 m3 l5 I J else none)
theorem ze_X12_power_0 (N : Nat) (n : Nat) (m0 : Int64) (l2 : Int32) (m3 : Int64) (l5 : Int32) (I : Nat → Nat → Int32) (J : Nat → Nat → Int64) : zl_X12_power N (n+1) 0 m0 l2 m3 l5 I J = zb_X12_power_0 N (zl_X12_power N n) m0 l2 m3 l5 I J := by
  show (if 0 = 0 then zb_X12_power_0 N (zl_X12_power N n) m0 l2 m3 l5 I J else (if 0 = 5 then zb_X12_power_5 N (zl_X12_power N n) m0 l2 m3 l5 I J else none)) = _
  rw [if_pos rfl]
theorem ze_X12_power_5 (N : Nat) (n : Nat) (m0 : Int64) (l2 : Int32) (m3 : Int64) (l5 : Int32) (I : Nat → Nat → Int32) (J : Nat → Nat → Int64) : zl_X12_power N (n+1) 5 m0 l2 m3 l5 I J = zb_X12_power_5 N (zl_X12_power N n) m0 l2 m3 l5 I J := by
  show (if 5 = 0 then zb_X12_power_0 N (zl_X12_power N n) m0 l2 m3 l5 I J else (if 5 = 5 then zb_X12_power_5 N (zl_X12_power N n) m0 l2 m3 l5 I J else none)) = _
  rw [if_neg (by decide), if_pos rfl]
def zf_X12_power (N : Nat) (m0 : Int64) (l2 : Int32) (I : Nat → Nat → Int32) (J : Nat → Nat → Int64) : Option (Int64 × (Nat → Nat → Int32) × (Nat → Nat → Int64)) := zl_X12_power N N 0 m0 l2 0 0 I J
theorem zq_X12_power (F : zz_F) (d N : Nat) : ∀ n : Nat, (∀ (m0 : Int64) (l2 : Int32) (m3 : Int64) (l5 : Int32) (I : Nat → Nat → Int32) (J : Nat → Nat → Int64) (r : Int64 × (Nat → Nat → Int32) × (Nat → Nat → Int64)), zl_X12_power N n 0 m0 l2 m3 l5 I J = some r → zz_run (d) 287 0 [some (.long m0), none, some (.int l2), none, none, none] [] (zz_S F I J) (some (.long r.1)) (zz_S F I J)) ∧ (∀ (m0 : Int64) (l2 : Int32) (m3 : Int64) (l5 : Int32) (I : Nat → Nat → Int32) (J : Nat → Nat → Int64) (r : Int64 × (Nat → Nat → Int32) × (Nat → Nat → Int64)), zl_X12_power N n 5 m0 l2 m3 l5 I J = some r → zz_run (d) 287 5 [some (.long m0), none, some (.int l2), some (.long m3), none, some (.int l5)] [] (zz_S F I J) (some (.long r.1)) (zz_S F I J)) := by
  intro n
  induction n with
  | zero => exact ⟨fun _ _ _ _ _ _ _ h => zz_no h, fun _ _ _ _ _ _ _ h => zz_no h⟩
  | succ n ih =>
    obtain ⟨ih0, ih5⟩ := ih
    refine ⟨?_, ?_⟩
    · intro m0 l2 m3 l5 I J r hr
      rw [ze_X12_power_0] at hr
      unfold zb_X12_power_0 at hr
      refine zs_287_0 ?_
      exact zz_wk [true, false, true, true, false, true] rfl (ih5 _ _ _ _ _ _ _ hr)
    · intro m0 l2 m3 l5 I J r hr
      rw [ze_X12_power_5] at hr
      unfold zb_X12_power_5 at hr
      refine zs_287_5 ?_
      refine And.intro (fun (h1 : l2 ≤ l5) => ?_) (fun (h1 : ¬ (l2 ≤ l5)) => ?_)
      · rw [if_pos h1] at hr
        show zz_run _ 287 21 [some (.long m0), none, some (.int l2), some (.long m3), none, some (.int l5)] [] (zz_S F I J) _ _
        refine zs_287_21 ?_
        replace hr := Option.some.inj hr
        subst hr
        exact And.intro rfl rfl
      · rw [if_neg h1] at hr
        exact zz_wk [true, false, true, true, false, true] rfl (ih5 _ _ _ _ _ _ _ hr)
theorem zr_X12_power (F : zz_F) (I : Nat → Nat → Int32) (J : Nat → Nat → Int64) (d N : Nat) (m0 : Int64) (l2 : Int32) (r : Int64 × (Nat → Nat → Int32) × (Nat → Nat → Int64)) (h : zf_X12_power N m0 l2 I J = some r) : zz_run (d) 287 0 [some (.long m0), none, some (.int l2), none, none, none] [] (zz_S F I J) (some (.long r.1)) (zz_S F I J) := (zq_X12_power F d N N).1 m0 l2 0 0 I J r h
def zb_X12_chance_0 (N : Nat) (rec : Nat → Int32 → Int32 → (Nat → Nat → Int32) → (Nat → Nat → Int64) → Option (Int32 × (Nat → Nat → Int32) × (Nat → Nat → Int64))) (l1 : Int32) (l2 : Int32) (I : Nat → Nat → Int32) (J : Nat → Nat → Int64) : Option (Int32 × (Nat → Nat → Int32) × (Nat → Nat → Int64)) := if (zv_X12_isPlay l1) = 0 then (some ((-1), zz_u I 52 7 0, J)) else (if ¬ (zv_X12_in l2 0 10) = 0 then ((zf_X12_whereBits N 0 (zz_u I 52 7 0) J).bind fun r1 => (zf_X12_ofPlay N r1.1 l1 (zz_u I 52 7 0) J).bind fun r2 => (zf_X12_personsOf N r2.1 (zz_u I 52 7 0) J).bind fun r3 => (zf_X12_power N ((10 - l2).toInt64) (zv_J6_bitCount r3.1) (zz_u I 52 7 0) J).bind fun r4 => (zf_X12_power N 10 (zv_J6_bitCount r3.1) (zz_u I 52 7 0) J).bind fun r5 => (zf_X12_tellPart N r4.1 r5.1 (zz_u I 52 7 0) J).bind fun r6 => some (0, r6.2.1, r6.2.2)) else (some ((-1), zz_u I 52 7 0, J)))
def zl_X12_chance (N : Nat) : Nat → Nat → Int32 → Int32 → (Nat → Nat → Int32) → (Nat → Nat → Int64) → Option (Int32 × (Nat → Nat → Int32) × (Nat → Nat → Int64))
  | 0 => fun _ _ _ _ _ => none
  | n + 1 => fun pc l1 l2 I J => if pc = 0 then zb_X12_chance_0 N (zl_X12_chance N n) l1 l2 I J else none
theorem ze_X12_chance_0 (N : Nat) (n : Nat) (l1 : Int32) (l2 : Int32) (I : Nat → Nat → Int32) (J : Nat → Nat → Int64) : zl_X12_chance N (n+1) 0 l1 l2 I J = zb_X12_chance_0 N (zl_X12_chance N n) l1 l2 I J := by
  show (if 0 = 0 then zb_X12_chance_0 N (zl_X12_chance N n) l1 l2 I J else none) = _
  rw [if_pos rfl]
def zf_X12_chance (N : Nat) (l1 : Int32) (l2 : Int32) (I : Nat → Nat → Int32) (J : Nat → Nat → Int64) : Option (Int32 × (Nat → Nat → Int32) × (Nat → Nat → Int64)) := zl_X12_chance N N 0 l1 l2 I J
theorem zq_X12_chance (F : zz_F) (d N : Nat) : ∀ n : Nat, (∀ (l1 : Int32) (l2 : Int32) (I : Nat → Nat → Int32) (J : Nat → Nat → Int64) (r : Int32 × (Nat → Nat → Int32) × (Nat → Nat → Int64)), zl_X12_chance N n 0 l1 l2 I J = some r → zz_run (d+66) 288 0 [some (.ref 52), some (.int l1), some (.int l2), none] [] (zz_S F I J) (some (.int r.1)) (zz_S F (r.2.1) (r.2.2))) := by
  intro n
  induction n with
  | zero => exact fun _ _ _ _ _ h => zz_no h
  | succ n ih =>
    have ih0 := ih
    skip
    · intro l1 l2 I J r hr
      rw [ze_X12_chance_0] at hr
      unfold zb_X12_chance_0 at hr
      refine zs_288_0 ?_
      refine And.intro (rfl) (And.intro (rfl) (And.intro (And.intro rfl rfl) (And.intro (Nat.le_of_ble_eq_true rfl) (And.intro (Nat.le_of_ble_eq_true rfl) (And.intro (Nat.le_of_ble_eq_true rfl) ?_)))))
      refine Exists.intro _ (Exists.intro _ (And.intro (zr_X12_isPlay F (zz_u I 52 7 0) J (d+64) l1) ?_))
      refine And.intro (fun (h1 : (zv_X12_isPlay l1) = 0) => ?_) (fun (h1 : ¬ ((zv_X12_isPlay l1) = 0)) => ?_)
      · rw [if_pos h1] at hr
        show zz_run _ 288 22 [some (.ref 52), some (.int l1), some (.int l2), none] [] (zz_S F (zz_u I 52 7 0) J) _ _
        refine zs_288_22 ?_
        replace hr := Option.some.inj hr
        subst hr
        exact And.intro rfl (And.intro rfl rfl)
      · rw [if_neg h1] at hr
        refine And.intro (Nat.le_of_ble_eq_true rfl) (And.intro (Nat.le_of_ble_eq_true rfl) (And.intro (Nat.le_of_ble_eq_true rfl) ?_))
        refine Exists.intro _ (Exists.intro _ (And.intro (zr_X12_in F (zz_u I 52 7 0) J (d+65) l2 0 10) ?_))
        refine And.intro (fun (h2 : ¬ (zv_X12_in l2 0 10) = 0) => ?_) (fun (h2 : ¬ (¬ (zv_X12_in l2 0 10) = 0)) => ?_)
        · rw [if_pos h2] at hr
          show zz_run _ 288 24 [some (.ref 52), some (.int l1), some (.int l2), none] [] (zz_S F (zz_u I 52 7 0) J) _ _
          refine zs_288_24 ?_
          refine And.intro (rfl) (And.intro (Nat.le_of_ble_eq_true rfl) (And.intro (Nat.le_of_ble_eq_true rfl) (And.intro (Nat.le_of_ble_eq_true rfl) ?_)))
          obtain ⟨r1, cr1, hr⟩ := Option.bind_eq_some_iff.mp hr
          refine Exists.intro _ (Exists.intro _ (And.intro (zr_X12_whereBits F (zz_u I 52 7 0) J (d+65) N 0 r1 cr1) ?_))
          refine And.intro (rfl) (And.intro (Nat.le_of_ble_eq_true rfl) (And.intro (Nat.le_of_ble_eq_true rfl) (And.intro (Nat.le_of_ble_eq_true rfl) ?_)))
          obtain ⟨r2, cr2, hr⟩ := Option.bind_eq_some_iff.mp hr
          refine Exists.intro _ (Exists.intro _ (And.intro (zr_X12_ofPlay F (zz_u I 52 7 0) J (d+63) N r1.1 l1 r2 cr2) ?_))
          refine And.intro (rfl) (And.intro (Nat.le_of_ble_eq_true rfl) (And.intro (Nat.le_of_ble_eq_true rfl) (And.intro (Nat.le_of_ble_eq_true rfl) ?_)))
          obtain ⟨r3, cr3, hr⟩ := Option.bind_eq_some_iff.mp hr
          refine Exists.intro _ (Exists.intro _ (And.intro (zr_X12_personsOf F (zz_u I 52 7 0) J (d+64) N r2.1 r3 cr3) ?_))
          refine And.intro (Nat.le_of_ble_eq_true rfl) (And.intro (Nat.le_of_ble_eq_true rfl) (And.intro (Nat.le_of_ble_eq_true rfl) ?_))
          refine Exists.intro _ (Exists.intro _ (And.intro (zr_J6_bitCount F (zz_u I 52 7 0) J (d+65) r3.1) ?_))
          refine And.intro (Nat.le_of_ble_eq_true rfl) (And.intro (Nat.le_of_ble_eq_true rfl) (And.intro (Nat.le_of_ble_eq_true rfl) ?_))
          obtain ⟨r4, cr4, hr⟩ := Option.bind_eq_some_iff.mp hr
          refine Exists.intro _ (Exists.intro _ (And.intro (zr_X12_power F (zz_u I 52 7 0) J (d+65) N ((10 - l2).toInt64) (zv_J6_bitCount r3.1) r4 cr4) ?_))
          refine And.intro (Nat.le_of_ble_eq_true rfl) (And.intro (Nat.le_of_ble_eq_true rfl) (And.intro (Nat.le_of_ble_eq_true rfl) ?_))
          obtain ⟨r5, cr5, hr⟩ := Option.bind_eq_some_iff.mp hr
          refine Exists.intro _ (Exists.intro _ (And.intro (zr_X12_power F (zz_u I 52 7 0) J (d+65) N 10 (zv_J6_bitCount r3.1) r5 cr5) ?_))
          refine And.intro (rfl) (And.intro (Nat.le_of_ble_eq_true rfl) (And.intro (Nat.le_of_ble_eq_true rfl) (And.intro (Nat.le_of_ble_eq_true rfl) ?_)))
          obtain ⟨r6, cr6, hr⟩ := Option.bind_eq_some_iff.mp hr
          refine Exists.intro _ (Exists.intro _ (And.intro (zr_X12_tellPart F (zz_u I 52 7 0) J d N r4.1 r5.1 r6 cr6) ?_))
          replace hr := Option.some.inj hr
          subst hr
          exact And.intro rfl (And.intro rfl rfl)
        · rw [if_neg h2] at hr
          show zz_run _ 288 22 [some (.ref 52), some (.int l1), some (.int l2), none] [] (zz_S F (zz_u I 52 7 0) J) _ _
          refine zs_288_22 ?_
          replace hr := Option.some.inj hr
          subst hr
          exact And.intro rfl (And.intro rfl rfl)
theorem zr_X12_chance (F : zz_F) (I : Nat → Nat → Int32) (J : Nat → Nat → Int64) (d N : Nat) (l1 : Int32) (l2 : Int32) (r : Int32 × (Nat → Nat → Int32) × (Nat → Nat → Int64)) (h : zf_X12_chance N l1 l2 I J = some r) : zz_run (d+66) 288 0 [some (.ref 52), some (.int l1), some (.int l2), none] [] (zz_S F I J) (some (.int r.1)) (zz_S F (r.2.1) (r.2.2)) := (zq_X12_chance F d N N) l1 l2 I J r h
def zb_X12_likely_0 (N : Nat) (rec : Nat → Int32 → Int32 → Int32 → Int32 → (Nat → Nat → Int32) → (Nat → Nat → Int64) → Option (Int32 × (Nat → Nat → Int32) × (Nat → Nat → Int64))) (l1 : Int32) (l2 : Int32) (l3 : Int32) (l4 : Int32) (I : Nat → Nat → Int32) (J : Nat → Nat → Int64) : Option (Int32 × (Nat → Nat → Int32) × (Nat → Nat → Int64)) := if ¬ (zv_X12_in l1 0 10) = 0 then ((zf_X12_whereBits N 0 (zz_u I 52 7 0) J).bind fun r1 => rec 25 l1 r1.1 0 0 (zz_u I 52 7 0) J) else (some ((-1), zz_u I 52 7 0, J))
def zb_X12_likely_25 (N : Nat) (rec : Nat → Int32 → Int32 → Int32 → Int32 → (Nat → Nat → Int32) → (Nat → Nat → Int64) → Option (Int32 × (Nat → Nat → Int32) × (Nat → Nat → Int64))) (l1 : Int32) (l2 : Int32) (l3 : Int32) (l4 : Int32) (I : Nat → Nat → Int32) (J : Nat → Nat → Int64) : Option (Int32 × (Nat → Nat → Int32) × (Nat → Nat → Int64)) := if 12 < l3 then (rec 46 l1 l2 0 0 I J) else (if ¬ (l3 < 0 ∨ 13 ≤ l3.toNatClampNeg) then (rec 25 l1 l2 (l3 + 1) 0 I (zz_u J 78 l3.toNatClampNeg 0)) else none)
def zb_X12_likely_46 (N : Nat) (rec : Nat → Int32 → Int32 → Int32 → Int32 → (Nat → Nat → Int32) → (Nat → Nat → Int64) → Option (Int32 × (Nat → Nat → Int32) × (Nat → Nat → Int64))) (l1 : Int32) (l2 : Int32) (l3 : Int32) (l4 : Int32) (I : Nat → Nat → Int32) (J : Nat → Nat → Int64) : Option (Int32 × (Nat → Nat → Int32) × (Nat → Nat → Int64)) := if 64 ≤ l3 then (rec 115 0 0 0 1 I J) else ((zf_X12_withPerson N l2 l3 I J).bind fun r3 => if ¬ ((zv_J6_bitCount (l2 &&& (r3.1 ^^^ ((-1))))) < 0 ∨ 13 ≤ (zv_J6_bitCount (l2 &&& (r3.1 ^^^ ((-1))))).toNatClampNeg) then ((zf_X12_power N l1.toInt64 (zv_J6_bitCount l3) I J).bind fun r5 => (zf_X12_power N ((10 - l1).toInt64) (6 - (zv_J6_bitCount l3)) I J).bind fun r6 => rec 46 l1 l2 (l3 + 1) 0 I (zz_u J 78 ((zv_J6_bitCount (l2 &&& (r3.1 ^^^ ((-1))))).toNatClampNeg) ((J 78 ((zv_J6_bitCount (l2 &&& (r3.1 ^^^ ((-1))))).toNatClampNeg)) + (r5.1 * r6.1)))) else none)
def zb_X12_likely_115 (N : Nat) (rec : Nat → Int32 → Int32 → Int32 → Int32 → (Nat → Nat → Int32) → (Nat → Nat → Int64) → Option (Int32 × (Nat → Nat → Int32) × (Nat → Nat → Int64))) (l1 : Int32) (l2 : Int32) (l3 : Int32) (l4 : Int32) (I : Nat → Nat → Int32) (J : Nat → Nat → Int64) : Option (Int32 × (Nat → Nat → Int32) × (Nat → Nat → Int64)) := if 12 < l4 then (if ¬ (l3 < 0 ∨ 13 ≤ l3.toNatClampNeg) then ((zf_X12_power N 10 6 I J).bind fun r8 => (zf_X12_tellPart N (J 78 l3.toNatClampNeg) r8.1 I J).bind fun r9 => some (l3, r9.2.1, r9.2.2)) else none) else (if ¬ (l4 < 0 ∨ 13 ≤ l4.toNatClampNeg) then (if ¬ (l3 < 0 ∨ 13 ≤ l3.toNatClampNeg) then (if (lg_cmp (J 78 l4.toNatClampNeg) (J 78 l3.toNatClampNeg)) ≤ 0 then (rec 142 0 0 l3 l4 I J) else (rec 142 0 0 l4 l4 I J)) else none) else none)
def zb_X12_likely_142 (N : Nat) (rec : Nat → Int32 → Int32 → Int32 → Int32 → (Nat → Nat → Int32) → (Nat → Nat → Int64) → Option (Int32 × (Nat → Nat → Int32) × (Nat → Nat → Int64))) (l1 : Int32) (l2 : Int32) (l3 : Int32) (l4 : Int32) (I : Nat → Nat → Int32) (J : Nat → Nat → Int64) : Option (Int32 × (Nat → Nat → Int32) × (Nat → Nat → Int64)) := rec 115 0 0 l3 (l4 + 1) I J
def zl_X12_likely (N : Nat) : Nat → Nat → Int32 → Int32 → Int32 → Int32 → (Nat → Nat → Int32) → (Nat → Nat → Int64) → Option (Int32 × (Nat → Nat → Int32) × (Nat → Nat → Int64))
  | 0 => fun _ _ _ _ _ _ _ => none
  | n + 1 => fun pc l1 l2 l3 l4 I J => if pc = 0 then zb_X12_likely_0 N (zl_X12_likely N n) l1 l2 l3 l4 I J else (if pc = 25 then zb_X12_likely_25 N (zl_X12_likely N n) l1 l2 l3 l4 I J else (if pc = 46 then zb_X12_likely_46 N (zl_X12_likely N n) l1 l2 l3 l4 I J else (if pc = 115 then zb_X12_likely_115 N (zl_X12_likely N n) l1 l2 l3 l4 I J else (if pc = 142 then zb_X12_likely_142 N (zl_X12_likely N n) l1 l2 l3 l4 I J else none))))
theorem ze_X12_likely_0 (N : Nat) (n : Nat) (l1 : Int32) (l2 : Int32) (l3 : Int32) (l4 : Int32) (I : Nat → Nat → Int32) (J : Nat → Nat → Int64) : zl_X12_likely N (n+1) 0 l1 l2 l3 l4 I J = zb_X12_likely_0 N (zl_X12_likely N n) l1 l2 l3 l4 I J := by
  show (if 0 = 0 then zb_X12_likely_0 N (zl_X12_likely N n) l1 l2 l3 l4 I J else (if 0 = 25 then zb_X12_likely_25 N (zl_X12_likely N n) l1 l2 l3 l4 I J else (if 0 = 46 then zb_X12_likely_46 N (zl_X12_likely N n) l1 l2 l3 l4 I J else (if 0 = 115 then zb_X12_likely_115 N (zl_X12_likely N n) l1 l2 l3 l4 I J else (if 0 = 142 then zb_X12_likely_142 N (zl_X12_likely N n) l1 l2 l3 l4 I J else none))))) = _
  rw [if_pos rfl]
theorem ze_X12_likely_25 (N : Nat) (n : Nat) (l1 : Int32) (l2 : Int32) (l3 : Int32) (l4 : Int32) (I : Nat → Nat → Int32) (J : Nat → Nat → Int64) : zl_X12_likely N (n+1) 25 l1 l2 l3 l4 I J = zb_X12_likely_25 N (zl_X12_likely N n) l1 l2 l3 l4 I J := by
  show (if 25 = 0 then zb_X12_likely_0 N (zl_X12_likely N n) l1 l2 l3 l4 I J else (if 25 = 25 then zb_X12_likely_25 N (zl_X12_likely N n) l1 l2 l3 l4 I J else (if 25 = 46 then zb_X12_likely_46 N (zl_X12_likely N n) l1 l2 l3 l4 I J else (if 25 = 115 then zb_X12_likely_115 N (zl_X12_likely N n) l1 l2 l3 l4 I J else (if 25 = 142 then zb_X12_likely_142 N (zl_X12_likely N n) l1 l2 l3 l4 I J else none))))) = _
  rw [if_neg (by decide), if_pos rfl]
theorem ze_X12_likely_46 (N : Nat) (n : Nat) (l1 : Int32) (l2 : Int32) (l3 : Int32) (l4 : Int32) (I : Nat → Nat → Int32) (J : Nat → Nat → Int64) : zl_X12_likely N (n+1) 46 l1 l2 l3 l4 I J = zb_X12_likely_46 N (zl_X12_likely N n) l1 l2 l3 l4 I J := by
  show (if 46 = 0 then zb_X12_likely_0 N (zl_X12_likely N n) l1 l2 l3 l4 I J else (if 46 = 25 then zb_X12_likely_25 N (zl_X12_likely N n) l1 l2 l3 l4 I J else (if 46 = 46 then zb_X12_likely_46 N (zl_X12_likely N n) l1 l2 l3 l4 I J else (if 46 = 115 then zb_X12_likely_115 N (zl_X12_likely N n) l1 l2 l3 l4 I J else (if 46 = 142 then zb_X12_likely_142 N (zl_X12_likely N n) l1 l2 l3 l4 I J else none))))) = _
  rw [if_neg (by decide), if_neg (by decide), if_pos rfl]
theorem ze_X12_likely_115 (N : Nat) (n : Nat) (l1 : Int32) (l2 : Int32) (l3 : Int32) (l4 : Int32) (I : Nat → Nat → Int32) (J : Nat → Nat → Int64) : zl_X12_likely N (n+1) 115 l1 l2 l3 l4 I J = zb_X12_likely_115 N (zl_X12_likely N n) l1 l2 l3 l4 I J := by
  show (if 115 = 0 then zb_X12_likely_0 N (zl_X12_likely N n) l1 l2 l3 l4 I J else (if 115 = 25 then zb_X12_likely_25 N (zl_X12_likely N n) l1 l2 l3 l4 I J else (if 115 = 46 then zb_X12_likely_46 N (zl_X12_likely N n) l1 l2 l3 l4 I J else (if 115 = 115 then zb_X12_likely_115 N (zl_X12_likely N n) l1 l2 l3 l4 I J else (if 115 = 142 then zb_X12_likely_142 N (zl_X12_likely N n) l1 l2 l3 l4 I J else none))))) = _
  rw [if_neg (by decide), if_neg (by decide), if_neg (by decide), if_pos rfl]
theorem ze_X12_likely_142 (N : Nat) (n : Nat) (l1 : Int32) (l2 : Int32) (l3 : Int32) (l4 : Int32) (I : Nat → Nat → Int32) (J : Nat → Nat → Int64) : zl_X12_likely N (n+1) 142 l1 l2 l3 l4 I J = zb_X12_likely_142 N (zl_X12_likely N n) l1 l2 l3 l4 I J := by
  show (if 142 = 0 then zb_X12_likely_0 N (zl_X12_likely N n) l1 l2 l3 l4 I J else (if 142 = 25 then zb_X12_likely_25 N (zl_X12_likely N n) l1 l2 l3 l4 I J else (if 142 = 46 then zb_X12_likely_46 N (zl_X12_likely N n) l1 l2 l3 l4 I J else (if 142 = 115 then zb_X12_likely_115 N (zl_X12_likely N n) l1 l2 l3 l4 I J else (if 142 = 142 then zb_X12_likely_142 N (zl_X12_likely N n) l1 l2 l3 l4 I J else none))))) = _
  rw [if_neg (by decide), if_neg (by decide), if_neg (by decide), if_neg (by decide), if_pos rfl]
def zf_X12_likely (N : Nat) (l1 : Int32) (I : Nat → Nat → Int32) (J : Nat → Nat → Int64) : Option (Int32 × (Nat → Nat → Int32) × (Nat → Nat → Int64)) := zl_X12_likely N N 0 l1 0 0 0 I J
theorem zq_X12_likely (F : zz_F) (d N : Nat) : ∀ n : Nat, (∀ (l1 : Int32) (l2 : Int32) (l3 : Int32) (l4 : Int32) (I : Nat → Nat → Int32) (J : Nat → Nat → Int64) (r : Int32 × (Nat → Nat → Int32) × (Nat → Nat → Int64)), zl_X12_likely N n 0 l1 l2 l3 l4 I J = some r → zz_run (d+66) 289 0 [some (.ref 52), some (.int l1), none, none, none, none] [] (zz_S F I J) (some (.int r.1)) (zz_S F (r.2.1) (r.2.2))) ∧ (∀ (l1 : Int32) (l2 : Int32) (l3 : Int32) (l4 : Int32) (I : Nat → Nat → Int32) (J : Nat → Nat → Int64) (r : Int32 × (Nat → Nat → Int32) × (Nat → Nat → Int64)), zl_X12_likely N n 25 l1 l2 l3 l4 I J = some r → zz_run (d+66) 289 25 [some (.ref 52), some (.int l1), some (.int l2), some (.int l3), none, none] [] (zz_S F I J) (some (.int r.1)) (zz_S F (r.2.1) (r.2.2))) ∧ (∀ (l1 : Int32) (l2 : Int32) (l3 : Int32) (l4 : Int32) (I : Nat → Nat → Int32) (J : Nat → Nat → Int64) (r : Int32 × (Nat → Nat → Int32) × (Nat → Nat → Int64)), zl_X12_likely N n 46 l1 l2 l3 l4 I J = some r → zz_run (d+66) 289 46 [some (.ref 52), some (.int l1), some (.int l2), some (.int l3), none, none] [] (zz_S F I J) (some (.int r.1)) (zz_S F (r.2.1) (r.2.2))) ∧ (∀ (l1 : Int32) (l2 : Int32) (l3 : Int32) (l4 : Int32) (I : Nat → Nat → Int32) (J : Nat → Nat → Int64) (r : Int32 × (Nat → Nat → Int32) × (Nat → Nat → Int64)), zl_X12_likely N n 115 l1 l2 l3 l4 I J = some r → zz_run (d+66) 289 115 [some (.ref 52), none, none, some (.int l3), some (.int l4), none] [] (zz_S F I J) (some (.int r.1)) (zz_S F (r.2.1) (r.2.2))) ∧ (∀ (l1 : Int32) (l2 : Int32) (l3 : Int32) (l4 : Int32) (I : Nat → Nat → Int32) (J : Nat → Nat → Int64) (r : Int32 × (Nat → Nat → Int32) × (Nat → Nat → Int64)), zl_X12_likely N n 142 l1 l2 l3 l4 I J = some r → zz_run (d+66) 289 142 [some (.ref 52), none, none, some (.int l3), some (.int l4), none] [] (zz_S F I J) (some (.int r.1)) (zz_S F (r.2.1) (r.2.2))) := by
  intro n
  induction n with
  | zero => exact ⟨fun _ _ _ _ _ _ _ h => zz_no h, fun _ _ _ _ _ _ _ h => zz_no h, fun _ _ _ _ _ _ _ h => zz_no h, fun _ _ _ _ _ _ _ h => zz_no h, fun _ _ _ _ _ _ _ h => zz_no h⟩
  | succ n ih =>
    obtain ⟨ih0, ih25, ih46, ih115, ih142⟩ := ih
    refine ⟨?_, ?_, ?_, ?_, ?_⟩
    · intro l1 l2 l3 l4 I J r hr
      rw [ze_X12_likely_0] at hr
      unfold zb_X12_likely_0 at hr
      refine zs_289_0 ?_
      refine And.intro (rfl) (And.intro (rfl) (And.intro (And.intro rfl rfl) (And.intro (Nat.le_of_ble_eq_true rfl) (And.intro (Nat.le_of_ble_eq_true rfl) (And.intro (Nat.le_of_ble_eq_true rfl) ?_)))))
      refine Exists.intro _ (Exists.intro _ (And.intro (zr_X12_in F (zz_u I 52 7 0) J (d+65) l1 0 10) ?_))
      refine And.intro (fun (h1 : ¬ (zv_X12_in l1 0 10) = 0) => ?_) (fun (h1 : ¬ (¬ (zv_X12_in l1 0 10) = 0)) => ?_)
      · rw [if_pos h1] at hr
        show zz_run _ 289 17 [some (.ref 52), some (.int l1), none, none, none, none] [] (zz_S F (zz_u I 52 7 0) J) _ _
        refine zs_289_17 ?_
        refine And.intro (rfl) (And.intro (Nat.le_of_ble_eq_true rfl) (And.intro (Nat.le_of_ble_eq_true rfl) (And.intro (Nat.le_of_ble_eq_true rfl) ?_)))
        obtain ⟨r1, cr1, hr⟩ := Option.bind_eq_some_iff.mp hr
        refine Exists.intro _ (Exists.intro _ (And.intro (zr_X12_whereBits F (zz_u I 52 7 0) J (d+65) N 0 r1 cr1) ?_))
        exact zz_wk [true, true, true, true, false, false] rfl (ih25 _ _ _ _ _ _ _ hr)
      · rw [if_neg h1] at hr
        replace hr := Option.some.inj hr
        subst hr
        exact And.intro rfl (And.intro rfl rfl)
    · intro l1 l2 l3 l4 I J r hr
      rw [ze_X12_likely_25] at hr
      unfold zb_X12_likely_25 at hr
      refine zs_289_25 ?_
      refine And.intro (fun (h2 : 12 < l3) => ?_) (fun (h2 : ¬ (12 < l3)) => ?_)
      · rw [if_pos h2] at hr
        show zz_run _ 289 44 [some (.ref 52), some (.int l1), some (.int l2), some (.int l3), none, none] [] (zz_S F I J) _ _
        refine zs_289_44 ?_
        exact zz_wk [true, true, true, true, false, false] rfl (ih46 _ _ _ _ _ _ _ hr)
      · rw [if_neg h2] at hr
        refine And.intro (rfl) (And.intro (rfl) ?_)
        have g2 : ¬ (l3 < 0 ∨ 13 ≤ l3.toNatClampNeg) := zz_g hr
        replace hr := zz_gt hr
        refine And.intro (g2) ?_
        exact zz_wk [true, true, true, true, false, false] rfl (ih25 _ _ _ _ _ _ _ hr)
    · intro l1 l2 l3 l4 I J r hr
      rw [ze_X12_likely_46] at hr
      unfold zb_X12_likely_46 at hr
      refine zs_289_46 ?_
      refine And.intro (fun (h3 : 64 ≤ l3) => ?_) (fun (h3 : ¬ (64 ≤ l3)) => ?_)
      · rw [if_pos h3] at hr
        show zz_run _ 289 110 [some (.ref 52), some (.int l1), some (.int l2), some (.int l3), none, none] [] (zz_S F I J) _ _
        refine zs_289_110 ?_
        exact zz_wk [true, false, false, true, true, false] rfl (ih115 _ _ _ _ _ _ _ hr)
      · rw [if_neg h3] at hr
        refine And.intro (Nat.le_of_ble_eq_true rfl) (And.intro (Nat.le_of_ble_eq_true rfl) (And.intro (Nat.le_of_ble_eq_true rfl) ?_))
        refine Exists.intro _ (Exists.intro _ (And.intro (zr_J6_bitCount F I J (d+65) l3) ?_))
        refine And.intro (rfl) (And.intro (Nat.le_of_ble_eq_true rfl) (And.intro (Nat.le_of_ble_eq_true rfl) (And.intro (Nat.le_of_ble_eq_true rfl) ?_)))
        obtain ⟨r3, cr3, hr⟩ := Option.bind_eq_some_iff.mp hr
        refine Exists.intro _ (Exists.intro _ (And.intro (zr_X12_withPerson F I J (d+64) N l2 l3 r3 cr3) ?_))
        refine And.intro (Nat.le_of_ble_eq_true rfl) (And.intro (Nat.le_of_ble_eq_true rfl) (And.intro (Nat.le_of_ble_eq_true rfl) ?_))
        refine Exists.intro _ (Exists.intro _ (And.intro (zr_J6_bitCount F I J (d+65) (l2 &&& (r3.1 ^^^ ((-1))))) ?_))
        refine And.intro (rfl) (And.intro (rfl) (And.intro (rfl) (And.intro (rfl) ?_)))
        have g4 : ¬ ((zv_J6_bitCount (l2 &&& (r3.1 ^^^ ((-1))))) < 0 ∨ 13 ≤ (zv_J6_bitCount (l2 &&& (r3.1 ^^^ ((-1))))).toNatClampNeg) := zz_g hr
        replace hr := zz_gt hr
        refine And.intro (g4) (And.intro (Nat.le_of_ble_eq_true rfl) (And.intro (Nat.le_of_ble_eq_true rfl) (And.intro (Nat.le_of_ble_eq_true rfl) ?_)))
        obtain ⟨r5, cr5, hr⟩ := Option.bind_eq_some_iff.mp hr
        refine Exists.intro _ (Exists.intro _ (And.intro (zr_X12_power F I J (d+65) N l1.toInt64 (zv_J6_bitCount l3) r5 cr5) ?_))
        refine And.intro (Nat.le_of_ble_eq_true rfl) (And.intro (Nat.le_of_ble_eq_true rfl) (And.intro (Nat.le_of_ble_eq_true rfl) ?_))
        obtain ⟨r6, cr6, hr⟩ := Option.bind_eq_some_iff.mp hr
        refine Exists.intro _ (Exists.intro _ (And.intro (zr_X12_power F I J (d+65) N ((10 - l1).toInt64) (6 - (zv_J6_bitCount l3)) r6 cr6) ?_))
        refine And.intro (rfl) (And.intro (g4) ?_)
        exact zz_wk [true, true, true, true, false, false] rfl (ih46 _ _ _ _ _ _ _ hr)
    · intro l1 l2 l3 l4 I J r hr
      rw [ze_X12_likely_115] at hr
      unfold zb_X12_likely_115 at hr
      refine zs_289_115 ?_
      refine And.intro (fun (h4 : 12 < l4) => ?_) (fun (h4 : ¬ (12 < l4)) => ?_)
      · rw [if_pos h4] at hr
        show zz_run _ 289 148 [some (.ref 52), none, none, some (.int l3), some (.int l4), none] [] (zz_S F I J) _ _
        refine zs_289_148 ?_
        refine And.intro (rfl) (And.intro (rfl) ?_)
        have g7 : ¬ (l3 < 0 ∨ 13 ≤ l3.toNatClampNeg) := zz_g hr
        replace hr := zz_gt hr
        refine And.intro (g7) (And.intro (Nat.le_of_ble_eq_true rfl) (And.intro (Nat.le_of_ble_eq_true rfl) (And.intro (Nat.le_of_ble_eq_true rfl) ?_)))
        obtain ⟨r8, cr8, hr⟩ := Option.bind_eq_some_iff.mp hr
        refine Exists.intro _ (Exists.intro _ (And.intro (zr_X12_power F I J (d+65) N 10 6 r8 cr8) ?_))
        refine And.intro (rfl) (And.intro (Nat.le_of_ble_eq_true rfl) (And.intro (Nat.le_of_ble_eq_true rfl) (And.intro (Nat.le_of_ble_eq_true rfl) ?_)))
        obtain ⟨r9, cr9, hr⟩ := Option.bind_eq_some_iff.mp hr
        refine Exists.intro _ (Exists.intro _ (And.intro (zr_X12_tellPart F I J d N (J 78 l3.toNatClampNeg) r8.1 r9 cr9) ?_))
        replace hr := Option.some.inj hr
        subst hr
        exact And.intro rfl (And.intro rfl rfl)
      · rw [if_neg h4] at hr
        refine And.intro (rfl) (And.intro (rfl) ?_)
        have g10 : ¬ (l4 < 0 ∨ 13 ≤ l4.toNatClampNeg) := zz_g hr
        replace hr := zz_gt hr
        refine And.intro (g10) (And.intro (rfl) (And.intro (rfl) ?_))
        have g11 : ¬ (l3 < 0 ∨ 13 ≤ l3.toNatClampNeg) := zz_g hr
        replace hr := zz_gt hr
        refine And.intro (g11) (And.intro (fun (h5 : (lg_cmp (J 78 l4.toNatClampNeg) (J 78 l3.toNatClampNeg)) ≤ 0) => ?_) (fun (h5 : ¬ ((lg_cmp (J 78 l4.toNatClampNeg) (J 78 l3.toNatClampNeg)) ≤ 0)) => ?_))
        · rw [if_pos h5] at hr
          exact zz_wk [true, false, false, true, true, false] rfl (ih142 _ _ _ _ _ _ _ hr)
        · rw [if_neg h5] at hr
          exact zz_wk [true, false, false, true, true, false] rfl (ih142 _ _ _ _ _ _ _ hr)
    · intro l1 l2 l3 l4 I J r hr
      rw [ze_X12_likely_142] at hr
      unfold zb_X12_likely_142 at hr
      refine zs_289_142 ?_
      exact zz_wk [true, false, false, true, true, false] rfl (ih115 _ _ _ _ _ _ _ hr)
theorem zr_X12_likely (F : zz_F) (I : Nat → Nat → Int32) (J : Nat → Nat → Int64) (d N : Nat) (l1 : Int32) (r : Int32 × (Nat → Nat → Int32) × (Nat → Nat → Int64)) (h : zf_X12_likely N l1 I J = some r) : zz_run (d+66) 289 0 [some (.ref 52), some (.int l1), none, none, none, none] [] (zz_S F I J) (some (.int r.1)) (zz_S F (r.2.1) (r.2.2)) := (zq_X12_likely F d N N).1 l1 0 0 0 I J r h
def zb_X12_isBest_0 (N : Nat) (rec : Nat → Int32 → Int32 → Int32 → Int32 → (Nat → Nat → Int32) → (Nat → Nat → Int64) → Option (Int32 × (Nat → Nat → Int32) × (Nat → Nat → Int64))) (l0 : Int32) (l1 : Int32) (l2 : Int32) (l3 : Int32) (I : Nat → Nat → Int32) (J : Nat → Nat → Int64) : Option (Int32 × (Nat → Nat → Int32) × (Nat → Nat → Int64)) := rec 2 l0 l1 l2 0 I J
def zb_X12_isBest_2 (N : Nat) (rec : Nat → Int32 → Int32 → Int32 → Int32 → (Nat → Nat → Int32) → (Nat → Nat → Int64) → Option (Int32 × (Nat → Nat → Int32) × (Nat → Nat → Int64))) (l0 : Int32) (l1 : Int32) (l2 : Int32) (l3 : Int32) (I : Nat → Nat → Int32) (J : Nat → Nat → Int64) : Option (Int32 × (Nat → Nat → Int32) × (Nat → Nat → Int64)) := if l2 < l3 then (some (1, I, J)) else (if (zv_X12_gets l3 l1 l2) ≤ (zv_X12_gets l0 l1 l2) then (rec 2 l0 l1 l2 (l3 + 1) I J) else (some (0, I, J)))
def zl_X12_isBest (N : Nat) : Nat → Nat → Int32 → Int32 → Int32 → Int32 → (Nat → Nat → Int32) → (Nat → Nat → Int64) → Option (Int32 × (Nat → Nat → Int32) × (Nat → Nat → Int64))
  | 0 => fun _ _ _ _ _ _ _ => none
  | n + 1 => fun pc l0 l1 l2 l3 I J => if pc = 0 then zb_X12_isBest_0 N (zl_X12_isBest N n) l0 l1 l2 l3 I J else (if pc = 2 then zb_X12_isBest_2 N (zl_X12_isBest N n) l0 l1 l2 l3 I J else none)
theorem ze_X12_isBest_0 (N : Nat) (n : Nat) (l0 : Int32) (l1 : Int32) (l2 : Int32) (l3 : Int32) (I : Nat → Nat → Int32) (J : Nat → Nat → Int64) : zl_X12_isBest N (n+1) 0 l0 l1 l2 l3 I J = zb_X12_isBest_0 N (zl_X12_isBest N n) l0 l1 l2 l3 I J := by
  show (if 0 = 0 then zb_X12_isBest_0 N (zl_X12_isBest N n) l0 l1 l2 l3 I J else (if 0 = 2 then zb_X12_isBest_2 N (zl_X12_isBest N n) l0 l1 l2 l3 I J else none)) = _
  rw [if_pos rfl]
theorem ze_X12_isBest_2 (N : Nat) (n : Nat) (l0 : Int32) (l1 : Int32) (l2 : Int32) (l3 : Int32) (I : Nat → Nat → Int32) (J : Nat → Nat → Int64) : zl_X12_isBest N (n+1) 2 l0 l1 l2 l3 I J = zb_X12_isBest_2 N (zl_X12_isBest N n) l0 l1 l2 l3 I J := by
  show (if 2 = 0 then zb_X12_isBest_0 N (zl_X12_isBest N n) l0 l1 l2 l3 I J else (if 2 = 2 then zb_X12_isBest_2 N (zl_X12_isBest N n) l0 l1 l2 l3 I J else none)) = _
  rw [if_neg (by decide), if_pos rfl]
def zf_X12_isBest (N : Nat) (l0 : Int32) (l1 : Int32) (l2 : Int32) (I : Nat → Nat → Int32) (J : Nat → Nat → Int64) : Option (Int32 × (Nat → Nat → Int32) × (Nat → Nat → Int64)) := zl_X12_isBest N N 0 l0 l1 l2 0 I J
theorem zq_X12_isBest (F : zz_F) (d N : Nat) : ∀ n : Nat, (∀ (l0 : Int32) (l1 : Int32) (l2 : Int32) (l3 : Int32) (I : Nat → Nat → Int32) (J : Nat → Nat → Int64) (r : Int32 × (Nat → Nat → Int32) × (Nat → Nat → Int64)), zl_X12_isBest N n 0 l0 l1 l2 l3 I J = some r → zz_run (d+2) 291 0 [some (.int l0), some (.int l1), some (.int l2), none] [] (zz_S F I J) (some (.int r.1)) (zz_S F I J)) ∧ (∀ (l0 : Int32) (l1 : Int32) (l2 : Int32) (l3 : Int32) (I : Nat → Nat → Int32) (J : Nat → Nat → Int64) (r : Int32 × (Nat → Nat → Int32) × (Nat → Nat → Int64)), zl_X12_isBest N n 2 l0 l1 l2 l3 I J = some r → zz_run (d+2) 291 2 [some (.int l0), some (.int l1), some (.int l2), some (.int l3)] [] (zz_S F I J) (some (.int r.1)) (zz_S F I J)) := by
  intro n
  induction n with
  | zero => exact ⟨fun _ _ _ _ _ _ _ h => zz_no h, fun _ _ _ _ _ _ _ h => zz_no h⟩
  | succ n ih =>
    obtain ⟨ih0, ih2⟩ := ih
    refine ⟨?_, ?_⟩
    · intro l0 l1 l2 l3 I J r hr
      rw [ze_X12_isBest_0] at hr
      unfold zb_X12_isBest_0 at hr
      refine zs_291_0 ?_
      exact zz_wk [true, true, true, true] rfl (ih2 _ _ _ _ _ _ _ hr)
    · intro l0 l1 l2 l3 I J r hr
      rw [ze_X12_isBest_2] at hr
      unfold zb_X12_isBest_2 at hr
      refine zs_291_2 ?_
      refine And.intro (fun (h1 : l2 < l3) => ?_) (fun (h1 : ¬ (l2 < l3)) => ?_)
      · rw [if_pos h1] at hr
        show zz_run _ 291 30 [some (.int l0), some (.int l1), some (.int l2), some (.int l3)] [] (zz_S F I J) _ _
        refine zs_291_30 ?_
        replace hr := Option.some.inj hr
        subst hr
        exact And.intro rfl (And.intro rfl rfl)
      · rw [if_neg h1] at hr
        refine And.intro (Nat.le_of_ble_eq_true rfl) (And.intro (Nat.le_of_ble_eq_true rfl) (And.intro (Nat.le_of_ble_eq_true rfl) ?_))
        refine Exists.intro _ (Exists.intro _ (And.intro (zr_X12_gets F I J d l3 l1 l2) ?_))
        refine And.intro (Nat.le_of_ble_eq_true rfl) (And.intro (Nat.le_of_ble_eq_true rfl) (And.intro (Nat.le_of_ble_eq_true rfl) ?_))
        refine Exists.intro _ (Exists.intro _ (And.intro (zr_X12_gets F I J d l0 l1 l2) ?_))
        refine And.intro (fun (h2 : (zv_X12_gets l3 l1 l2) ≤ (zv_X12_gets l0 l1 l2)) => ?_) (fun (h2 : ¬ ((zv_X12_gets l3 l1 l2) ≤ (zv_X12_gets l0 l1 l2))) => ?_)
        · rw [if_pos h2] at hr
          show zz_run _ 291 24 [some (.int l0), some (.int l1), some (.int l2), some (.int l3)] [] (zz_S F I J) _ _
          refine zs_291_24 ?_
          exact zz_wk [true, true, true, true] rfl (ih2 _ _ _ _ _ _ _ hr)
        · rw [if_neg h2] at hr
          replace hr := Option.some.inj hr
          subst hr
          exact And.intro rfl (And.intro rfl rfl)
theorem zr_X12_isBest (F : zz_F) (I : Nat → Nat → Int32) (J : Nat → Nat → Int64) (d N : Nat) (l0 : Int32) (l1 : Int32) (l2 : Int32) (r : Int32 × (Nat → Nat → Int32) × (Nat → Nat → Int64)) (h : zf_X12_isBest N l0 l1 l2 I J = some r) : zz_run (d+2) 291 0 [some (.int l0), some (.int l1), some (.int l2), none] [] (zz_S F I J) (some (.int r.1)) (zz_S F I J) := (zq_X12_isBest F d N N).1 l0 l1 l2 0 I J r h
def zb_X12_rests_0 (N : Nat) (rec : Nat → Int32 → Int32 → Int32 → Int32 → (Nat → Nat → Int32) → (Nat → Nat → Int64) → Option (Int32 × (Nat → Nat → Int32) × (Nat → Nat → Int64))) (l1 : Int32) (l2 : Int32) (l3 : Int32) (l4 : Int32) (I : Nat → Nat → Int32) (J : Nat → Nat → Int64) : Option (Int32 × (Nat → Nat → Int32) × (Nat → Nat → Int64)) := if ¬ (zv_X12_in l1 0 20) = 0 then (rec 26 l1 0 0 0 (zz_u (zz_u I 52 7 0) 52 6 0) J) else (some ((-1), zz_u I 52 7 0, J))
def zb_X12_rests_26 (N : Nat) (rec : Nat → Int32 → Int32 → Int32 → Int32 → (Nat → Nat → Int32) → (Nat → Nat → Int64) → Option (Int32 × (Nat → Nat → Int32) × (Nat → Nat → Int64))) (l1 : Int32) (l2 : Int32) (l3 : Int32) (l4 : Int32) (I : Nat → Nat → Int32) (J : Nat → Nat → Int64) : Option (Int32 × (Nat → Nat → Int32) × (Nat → Nat → Int64)) := if l1 < l3 then (some (l2, I, J)) else (rec 34 l1 l2 l3 0 I J)
def zb_X12_rests_34 (N : Nat) (rec : Nat → Int32 → Int32 → Int32 → Int32 → (Nat → Nat → Int32) → (Nat → Nat → Int64) → Option (Int32 × (Nat → Nat → Int32) × (Nat → Nat → Int64))) (l1 : Int32) (l2 : Int32) (l3 : Int32) (l4 : Int32) (I : Nat → Nat → Int32) (J : Nat → Nat → Int64) : Option (Int32 × (Nat → Nat → Int32) × (Nat → Nat → Int64)) := if l1 < l4 then (rec 26 l1 l2 (l3 + 1) 0 I J) else ((zf_X12_isBest N l3 l4 l1 I J).bind fun r1 => if r1.1 = 0 then (rec 83 l1 l2 l3 l4 I J) else ((zf_X12_isBest N l4 l3 l1 I J).bind fun r2 => if ¬ r2.1 = 0 then (if ¬ l2 = 0 then (rec 80 l1 l2 l3 l4 I J) else (if ¬ ((I 52 6) < 0 ∨ 20 ≤ (I 52 6).toNatClampNeg) then (if ¬ (((zw_X12_tell I J l3.toInt64) 52 6) < 0 ∨ 20 ≤ ((zw_X12_tell I J l3.toInt64) 52 6).toNatClampNeg) then (rec 80 l1 l2 l3 l4 (zw_X12_tell (zw_X12_tell I J l3.toInt64) (zx_X12_tell I J l3.toInt64) l4.toInt64) (zx_X12_tell (zw_X12_tell I J l3.toInt64) (zx_X12_tell I J l3.toInt64) l4.toInt64)) else none) else none)) else (rec 83 l1 l2 l3 l4 I J)))
def zb_X12_rests_80 (N : Nat) (rec : Nat → Int32 → Int32 → Int32 → Int32 → (Nat → Nat → Int32) → (Nat → Nat → Int64) → Option (Int32 × (Nat → Nat → Int32) × (Nat → Nat → Int64))) (l1 : Int32) (l2 : Int32) (l3 : Int32) (l4 : Int32) (I : Nat → Nat → Int32) (J : Nat → Nat → Int64) : Option (Int32 × (Nat → Nat → Int32) × (Nat → Nat → Int64)) := rec 83 l1 (l2 + 1) l3 l4 I J
def zb_X12_rests_83 (N : Nat) (rec : Nat → Int32 → Int32 → Int32 → Int32 → (Nat → Nat → Int32) → (Nat → Nat → Int64) → Option (Int32 × (Nat → Nat → Int32) × (Nat → Nat → Int64))) (l1 : Int32) (l2 : Int32) (l3 : Int32) (l4 : Int32) (I : Nat → Nat → Int32) (J : Nat → Nat → Int64) : Option (Int32 × (Nat → Nat → Int32) × (Nat → Nat → Int64)) := rec 34 l1 l2 l3 (l4 + 1) I J
def zl_X12_rests (N : Nat) : Nat → Nat → Int32 → Int32 → Int32 → Int32 → (Nat → Nat → Int32) → (Nat → Nat → Int64) → Option (Int32 × (Nat → Nat → Int32) × (Nat → Nat → Int64))
  | 0 => fun _ _ _ _ _ _ _ => none
  | n + 1 => fun pc l1 l2 l3 l4 I J => if pc = 0 then zb_X12_rests_0 N (zl_X12_rests N n) l1 l2 l3 l4 I J else (if pc = 26 then zb_X12_rests_26 N (zl_X12_rests N n) l1 l2 l3 l4 I J else (if pc = 34 then zb_X12_rests_34 N (zl_X12_rests N n) l1 l2 l3 l4 I J else (if pc = 80 then zb_X12_rests_80 N (zl_X12_rests N n) l1 l2 l3 l4 I J else (if pc = 83 then zb_X12_rests_83 N (zl_X12_rests N n) l1 l2 l3 l4 I J else none))))
theorem ze_X12_rests_0 (N : Nat) (n : Nat) (l1 : Int32) (l2 : Int32) (l3 : Int32) (l4 : Int32) (I : Nat → Nat → Int32) (J : Nat → Nat → Int64) : zl_X12_rests N (n+1) 0 l1 l2 l3 l4 I J = zb_X12_rests_0 N (zl_X12_rests N n) l1 l2 l3 l4 I J := by
  show (if 0 = 0 then zb_X12_rests_0 N (zl_X12_rests N n) l1 l2 l3 l4 I J else (if 0 = 26 then zb_X12_rests_26 N (zl_X12_rests N n) l1 l2 l3 l4 I J else (if 0 = 34 then zb_X12_rests_34 N (zl_X12_rests N n) l1 l2 l3 l4 I J else (if 0 = 80 then zb_X12_rests_80 N (zl_X12_rests N n) l1 l2 l3 l4 I J else (if 0 = 83 then zb_X12_rests_83 N (zl_X12_rests N n) l1 l2 l3 l4 I J else none))))) = _
  rw [if_pos rfl]
theorem ze_X12_rests_26 (N : Nat) (n : Nat) (l1 : Int32) (l2 : Int32) (l3 : Int32) (l4 : Int32) (I : Nat → Nat → Int32) (J : Nat → Nat → Int64) : zl_X12_rests N (n+1) 26 l1 l2 l3 l4 I J = zb_X12_rests_26 N (zl_X12_rests N n) l1 l2 l3 l4 I J := by
  show (if 26 = 0 then zb_X12_rests_0 N (zl_X12_rests N n) l1 l2 l3 l4 I J else (if 26 = 26 then zb_X12_rests_26 N (zl_X12_rests N n) l1 l2 l3 l4 I J else (if 26 = 34 then zb_X12_rests_34 N (zl_X12_rests N n) l1 l2 l3 l4 I J else (if 26 = 80 then zb_X12_rests_80 N (zl_X12_rests N n) l1 l2 l3 l4 I J else (if 26 = 83 then zb_X12_rests_83 N (zl_X12_rests N n) l1 l2 l3 l4 I J else none))))) = _
  rw [if_neg (by decide), if_pos rfl]
theorem ze_X12_rests_34 (N : Nat) (n : Nat) (l1 : Int32) (l2 : Int32) (l3 : Int32) (l4 : Int32) (I : Nat → Nat → Int32) (J : Nat → Nat → Int64) : zl_X12_rests N (n+1) 34 l1 l2 l3 l4 I J = zb_X12_rests_34 N (zl_X12_rests N n) l1 l2 l3 l4 I J := by
  show (if 34 = 0 then zb_X12_rests_0 N (zl_X12_rests N n) l1 l2 l3 l4 I J else (if 34 = 26 then zb_X12_rests_26 N (zl_X12_rests N n) l1 l2 l3 l4 I J else (if 34 = 34 then zb_X12_rests_34 N (zl_X12_rests N n) l1 l2 l3 l4 I J else (if 34 = 80 then zb_X12_rests_80 N (zl_X12_rests N n) l1 l2 l3 l4 I J else (if 34 = 83 then zb_X12_rests_83 N (zl_X12_rests N n) l1 l2 l3 l4 I J else none))))) = _
  rw [if_neg (by decide), if_neg (by decide), if_pos rfl]
theorem ze_X12_rests_80 (N : Nat) (n : Nat) (l1 : Int32) (l2 : Int32) (l3 : Int32) (l4 : Int32) (I : Nat → Nat → Int32) (J : Nat → Nat → Int64) : zl_X12_rests N (n+1) 80 l1 l2 l3 l4 I J = zb_X12_rests_80 N (zl_X12_rests N n) l1 l2 l3 l4 I J := by
  show (if 80 = 0 then zb_X12_rests_0 N (zl_X12_rests N n) l1 l2 l3 l4 I J else (if 80 = 26 then zb_X12_rests_26 N (zl_X12_rests N n) l1 l2 l3 l4 I J else (if 80 = 34 then zb_X12_rests_34 N (zl_X12_rests N n) l1 l2 l3 l4 I J else (if 80 = 80 then zb_X12_rests_80 N (zl_X12_rests N n) l1 l2 l3 l4 I J else (if 80 = 83 then zb_X12_rests_83 N (zl_X12_rests N n) l1 l2 l3 l4 I J else none))))) = _
  rw [if_neg (by decide), if_neg (by decide), if_neg (by decide), if_pos rfl]
theorem ze_X12_rests_83 (N : Nat) (n : Nat) (l1 : Int32) (l2 : Int32) (l3 : Int32) (l4 : Int32) (I : Nat → Nat → Int32) (J : Nat → Nat → Int64) : zl_X12_rests N (n+1) 83 l1 l2 l3 l4 I J = zb_X12_rests_83 N (zl_X12_rests N n) l1 l2 l3 l4 I J := by
  show (if 83 = 0 then zb_X12_rests_0 N (zl_X12_rests N n) l1 l2 l3 l4 I J else (if 83 = 26 then zb_X12_rests_26 N (zl_X12_rests N n) l1 l2 l3 l4 I J else (if 83 = 34 then zb_X12_rests_34 N (zl_X12_rests N n) l1 l2 l3 l4 I J else (if 83 = 80 then zb_X12_rests_80 N (zl_X12_rests N n) l1 l2 l3 l4 I J else (if 83 = 83 then zb_X12_rests_83 N (zl_X12_rests N n) l1 l2 l3 l4 I J else none))))) = _
  rw [if_neg (by decide), if_neg (by decide), if_neg (by decide), if_neg (by decide), if_pos rfl]
def zf_X12_rests (N : Nat) (l1 : Int32) (I : Nat → Nat → Int32) (J : Nat → Nat → Int64) : Option (Int32 × (Nat → Nat → Int32) × (Nat → Nat → Int64)) := zl_X12_rests N N 0 l1 0 0 0 I J
theorem zq_X12_rests (F : zz_F) (d N : Nat) : ∀ n : Nat, (∀ (l1 : Int32) (l2 : Int32) (l3 : Int32) (l4 : Int32) (I : Nat → Nat → Int32) (J : Nat → Nat → Int64) (r : Int32 × (Nat → Nat → Int32) × (Nat → Nat → Int64)), zl_X12_rests N n 0 l1 l2 l3 l4 I J = some r → zz_run (d+3) 292 0 [some (.ref 52), some (.int l1), none, none, none] [] (zz_S F I J) (some (.int r.1)) (zz_S F (r.2.1) (r.2.2))) ∧ (∀ (l1 : Int32) (l2 : Int32) (l3 : Int32) (l4 : Int32) (I : Nat → Nat → Int32) (J : Nat → Nat → Int64) (r : Int32 × (Nat → Nat → Int32) × (Nat → Nat → Int64)), zl_X12_rests N n 26 l1 l2 l3 l4 I J = some r → zz_run (d+3) 292 26 [some (.ref 52), some (.int l1), some (.int l2), some (.int l3), none] [] (zz_S F I J) (some (.int r.1)) (zz_S F (r.2.1) (r.2.2))) ∧ (∀ (l1 : Int32) (l2 : Int32) (l3 : Int32) (l4 : Int32) (I : Nat → Nat → Int32) (J : Nat → Nat → Int64) (r : Int32 × (Nat → Nat → Int32) × (Nat → Nat → Int64)), zl_X12_rests N n 34 l1 l2 l3 l4 I J = some r → zz_run (d+3) 292 34 [some (.ref 52), some (.int l1), some (.int l2), some (.int l3), some (.int l4)] [] (zz_S F I J) (some (.int r.1)) (zz_S F (r.2.1) (r.2.2))) ∧ (∀ (l1 : Int32) (l2 : Int32) (l3 : Int32) (l4 : Int32) (I : Nat → Nat → Int32) (J : Nat → Nat → Int64) (r : Int32 × (Nat → Nat → Int32) × (Nat → Nat → Int64)), zl_X12_rests N n 80 l1 l2 l3 l4 I J = some r → zz_run (d+3) 292 80 [some (.ref 52), some (.int l1), some (.int l2), some (.int l3), some (.int l4)] [] (zz_S F I J) (some (.int r.1)) (zz_S F (r.2.1) (r.2.2))) ∧ (∀ (l1 : Int32) (l2 : Int32) (l3 : Int32) (l4 : Int32) (I : Nat → Nat → Int32) (J : Nat → Nat → Int64) (r : Int32 × (Nat → Nat → Int32) × (Nat → Nat → Int64)), zl_X12_rests N n 83 l1 l2 l3 l4 I J = some r → zz_run (d+3) 292 83 [some (.ref 52), some (.int l1), some (.int l2), some (.int l3), some (.int l4)] [] (zz_S F I J) (some (.int r.1)) (zz_S F (r.2.1) (r.2.2))) := by
  intro n
  induction n with
  | zero => exact ⟨fun _ _ _ _ _ _ _ h => zz_no h, fun _ _ _ _ _ _ _ h => zz_no h, fun _ _ _ _ _ _ _ h => zz_no h, fun _ _ _ _ _ _ _ h => zz_no h, fun _ _ _ _ _ _ _ h => zz_no h⟩
  | succ n ih =>
    obtain ⟨ih0, ih26, ih34, ih80, ih83⟩ := ih
    refine ⟨?_, ?_, ?_, ?_, ?_⟩
    · intro l1 l2 l3 l4 I J r hr
      rw [ze_X12_rests_0] at hr
      unfold zb_X12_rests_0 at hr
      refine zs_292_0 ?_
      refine And.intro (rfl) (And.intro (rfl) (And.intro (And.intro rfl rfl) (And.intro (Nat.le_of_ble_eq_true rfl) (And.intro (Nat.le_of_ble_eq_true rfl) (And.intro (Nat.le_of_ble_eq_true rfl) ?_)))))
      refine Exists.intro _ (Exists.intro _ (And.intro (zr_X12_in F (zz_u I 52 7 0) J (d+2) l1 0 20) ?_))
      refine And.intro (fun (h1 : ¬ (zv_X12_in l1 0 20) = 0) => ?_) (fun (h1 : ¬ (¬ (zv_X12_in l1 0 20) = 0)) => ?_)
      · rw [if_pos h1] at hr
        show zz_run _ 292 17 [some (.ref 52), some (.int l1), none, none, none] [] (zz_S F (zz_u I 52 7 0) J) _ _
        refine zs_292_17 ?_
        refine And.intro (rfl) (And.intro (rfl) (And.intro (And.intro rfl rfl) ?_))
        exact zz_wk [true, true, true, true, false] rfl (ih26 _ _ _ _ _ _ _ hr)
      · rw [if_neg h1] at hr
        replace hr := Option.some.inj hr
        subst hr
        exact And.intro rfl (And.intro rfl rfl)
    · intro l1 l2 l3 l4 I J r hr
      rw [ze_X12_rests_26] at hr
      unfold zb_X12_rests_26 at hr
      refine zs_292_26 ?_
      refine And.intro (fun (h2 : l1 < l3) => ?_) (fun (h2 : ¬ (l1 < l3)) => ?_)
      · rw [if_pos h2] at hr
        show zz_run _ 292 95 [some (.ref 52), some (.int l1), some (.int l2), some (.int l3), none] [] (zz_S F I J) _ _
        refine zs_292_95 ?_
        replace hr := Option.some.inj hr
        subst hr
        exact And.intro rfl (And.intro rfl rfl)
      · rw [if_neg h2] at hr
        exact zz_wk [true, true, true, true, true] rfl (ih34 _ _ _ _ _ _ _ hr)
    · intro l1 l2 l3 l4 I J r hr
      rw [ze_X12_rests_34] at hr
      unfold zb_X12_rests_34 at hr
      refine zs_292_34 ?_
      refine And.intro (fun (h3 : l1 < l4) => ?_) (fun (h3 : ¬ (l1 < l4)) => ?_)
      · rw [if_pos h3] at hr
        show zz_run _ 292 89 [some (.ref 52), some (.int l1), some (.int l2), some (.int l3), some (.int l4)] [] (zz_S F I J) _ _
        refine zs_292_89 ?_
        exact zz_wk [true, true, true, true, false] rfl (ih26 _ _ _ _ _ _ _ hr)
      · rw [if_neg h3] at hr
        refine And.intro (Nat.le_of_ble_eq_true rfl) (And.intro (Nat.le_of_ble_eq_true rfl) (And.intro (Nat.le_of_ble_eq_true rfl) ?_))
        obtain ⟨r1, cr1, hr⟩ := Option.bind_eq_some_iff.mp hr
        refine Exists.intro _ (Exists.intro _ (And.intro (zr_X12_isBest F I J d N l3 l4 l1 r1 cr1) ?_))
        refine And.intro (fun (h4 : r1.1 = 0) => ?_) (fun (h4 : ¬ (r1.1 = 0)) => ?_)
        · rw [if_pos h4] at hr
          exact zz_wk [true, true, true, true, true] rfl (ih83 _ _ _ _ _ _ _ hr)
        · rw [if_neg h4] at hr
          refine And.intro (Nat.le_of_ble_eq_true rfl) (And.intro (Nat.le_of_ble_eq_true rfl) (And.intro (Nat.le_of_ble_eq_true rfl) ?_))
          obtain ⟨r2, cr2, hr⟩ := Option.bind_eq_some_iff.mp hr
          refine Exists.intro _ (Exists.intro _ (And.intro (zr_X12_isBest F I J d N l4 l3 l1 r2 cr2) ?_))
          refine And.intro (fun (h5 : ¬ r2.1 = 0) => ?_) (fun (h5 : ¬ (¬ r2.1 = 0)) => ?_)
          · rw [if_pos h5] at hr
            show zz_run _ 292 63 [some (.ref 52), some (.int l1), some (.int l2), some (.int l3), some (.int l4)] [] (zz_S F I J) _ _
            refine zs_292_63 ?_
            refine And.intro (fun (h6 : ¬ l2 = 0) => ?_) (fun (h6 : ¬ (¬ l2 = 0)) => ?_)
            · rw [if_pos h6] at hr
              exact zz_wk [true, true, true, true, true] rfl (ih80 _ _ _ _ _ _ _ hr)
            · rw [if_neg h6] at hr
              refine And.intro (rfl) (And.intro (Nat.le_of_ble_eq_true rfl) (And.intro (Nat.le_of_ble_eq_true rfl) (And.intro (Nat.le_of_ble_eq_true rfl) ?_)))
              have g3 : ¬ ((I 52 6) < 0 ∨ 20 ≤ (I 52 6).toNatClampNeg) := zz_g hr
              replace hr := zz_gt hr
              refine Exists.intro _ (Exists.intro _ (And.intro (zr_X12_tell F I J (d+2) l3.toInt64 g3) ?_))
              refine And.intro (rfl) (And.intro (Nat.le_of_ble_eq_true rfl) (And.intro (Nat.le_of_ble_eq_true rfl) (And.intro (Nat.le_of_ble_eq_true rfl) ?_)))
              have g4 : ¬ (((zw_X12_tell I J l3.toInt64) 52 6) < 0 ∨ 20 ≤ ((zw_X12_tell I J l3.toInt64) 52 6).toNatClampNeg) := zz_g hr
              replace hr := zz_gt hr
              refine Exists.intro _ (Exists.intro _ (And.intro (zr_X12_tell F (zw_X12_tell I J l3.toInt64) (zx_X12_tell I J l3.toInt64) (d+2) l4.toInt64 g4) ?_))
              exact zz_wk [true, true, true, true, true] rfl (ih80 _ _ _ _ _ _ _ hr)
          · rw [if_neg h5] at hr
            exact zz_wk [true, true, true, true, true] rfl (ih83 _ _ _ _ _ _ _ hr)
    · intro l1 l2 l3 l4 I J r hr
      rw [ze_X12_rests_80] at hr
      unfold zb_X12_rests_80 at hr
      refine zs_292_80 ?_
      exact zz_wk [true, true, true, true, true] rfl (ih83 _ _ _ _ _ _ _ hr)
    · intro l1 l2 l3 l4 I J r hr
      rw [ze_X12_rests_83] at hr
      unfold zb_X12_rests_83 at hr
      refine zs_292_83 ?_
      exact zz_wk [true, true, true, true, true] rfl (ih34 _ _ _ _ _ _ _ hr)
theorem zr_X12_rests (F : zz_F) (I : Nat → Nat → Int32) (J : Nat → Nat → Int64) (d N : Nat) (l1 : Int32) (r : Int32 × (Nat → Nat → Int32) × (Nat → Nat → Int64)) (h : zf_X12_rests N l1 I J = some r) : zz_run (d+3) 292 0 [some (.ref 52), some (.int l1), none, none, none] [] (zz_S F I J) (some (.int r.1)) (zz_S F (r.2.1) (r.2.2)) := (zq_X12_rests F d N N).1 l1 0 0 0 I J r h
def zb_J6_numberOfTrailingZeros_0 (N : Nat) (rec : Nat → Int32 → (Nat → Nat → Int32) → (Nat → Nat → Int64) → Option (Int32 × (Nat → Nat → Int32) × (Nat → Nat → Int64))) (l0 : Int32) (I : Nat → Nat → Int32) (J : Nat → Nat → Int64) : Option (Int32 × (Nat → Nat → Int32) × (Nat → Nat → Int64)) := if 0 < ((l0 ^^^ ((-1))) &&& (l0 - 1)) then (if ((l0 ^^^ ((-1))) &&& (l0 - 1)) ≤ 65536 then (if ((l0 ^^^ ((-1))) &&& (l0 - 1)) ≤ 256 then (if ((l0 ^^^ ((-1))) &&& (l0 - 1)) ≤ 16 then (if ((l0 ^^^ ((-1))) &&& (l0 - 1)) ≤ 4 then (some (1 + ((((l0 ^^^ ((-1))) &&& (l0 - 1)).toUInt32 >>> ((1 : Int32).toUInt32 &&& Int32.toUInt32 31)).toInt32), I, J)) else (some ((1 + 2) + ((((((l0 ^^^ ((-1))) &&& (l0 - 1)).toUInt32 >>> ((2 : Int32).toUInt32 &&& Int32.toUInt32 31)).toInt32).toUInt32 >>> ((1 : Int32).toUInt32 &&& Int32.toUInt32 31)).toInt32), I, J))) else (if ((((l0 ^^^ ((-1))) &&& (l0 - 1)).toUInt32 >>> ((4 : Int32).toUInt32 &&& Int32.toUInt32 31)).toInt32) ≤ 4 then (some ((1 + 4) + ((((((l0 ^^^ ((-1))) &&& (l0 - 1)).toUInt32 >>> ((4 : Int32).toUInt32 &&& Int32.toUInt32 31)).toInt32).toUInt32 >>> ((1 : Int32).toUInt32 &&& Int32.toUInt32 31)).toInt32), I, J)) else (some (((1 + 4) + 2) + ((((((((l0 ^^^ ((-1))) &&& (l0 - 1)).toUInt32 >>> ((4 : Int32).toUInt32 &&& Int32.toUInt32 31)).toInt32).toUInt32 >>> ((2 : Int32).toUInt32 &&& Int32.toUInt32 31)).toInt32).toUInt32 >>> ((1 : Int32).toUInt32 &&& Int32.toUInt32 31)).toInt32), I, J)))) else (if ((((l0 ^^^ ((-1))) &&& (l0 - 1)).toUInt32 >>> ((8 : Int32).toUInt32 &&& Int32.toUInt32 31)).toInt32) ≤ 16 then (if ((((l0 ^^^ ((-1))) &&& (l0 - 1)).toUInt32 >>> ((8 : Int32).toUInt32 &&& Int32.toUInt32 31)).toInt32) ≤ 4 then (some ((1 + 8) + ((((((l0 ^^^ ((-1))) &&& (l0 - 1)).toUInt32 >>> ((8 : Int32).toUInt32 &&& Int32.toUInt32 31)).toInt32).toUInt32 >>> ((1 : Int32).toUInt32 &&& Int32.toUInt32 31)).toInt32), I, J)) else (some (((1 + 8) + 2) + ((((((((l0 ^^^ ((-1))) &&& (l0 - 1)).toUInt32 >>> ((8 : Int32).toUInt32 &&& Int32.toUInt32 31)).toInt32).toUInt32 >>> ((2 : Int32).toUInt32 &&& Int32.toUInt32 31)).toInt32).toUInt32 >>> ((1 : Int32).toUInt32 &&& Int32.toUInt32 31)).toInt32), I, J))) else (if ((((((l0 ^^^ ((-1))) &&& (l0 - 1)).toUInt32 >>> ((8 : Int32).toUInt32 &&& Int32.toUInt32 31)).toInt32).toUInt32 >>> ((4 : Int32).toUInt32 &&& Int32.toUInt32 31)).toInt32) ≤ 4 then (some (((1 + 8) + 4) + ((((((((l0 ^^^ ((-1))) &&& (l0 - 1)).toUInt32 >>> ((8 : Int32).toUInt32 &&& Int32.toUInt32 31)).toInt32).toUInt32 >>> ((4 : Int32).toUInt32 &&& Int32.toUInt32 31)).toInt32).toUInt32 >>> ((1 : Int32).toUInt32 &&& Int32.toUInt32 31)).toInt32), I, J)) else (some ((((1 + 8) + 4) + 2) + ((((((((((l0 ^^^ ((-1))) &&& (l0 - 1)).toUInt32 >>> ((8 : Int32).toUInt32 &&& Int32.toUInt32 31)).toInt32).toUInt32 >>> ((4 : Int32).toUInt32 &&& Int32.toUInt32 31)).toInt32).toUInt32 >>> ((2 : Int32).toUInt32 &&& Int32.toUInt32 31)).toInt32).toUInt32 >>> ((1 : Int32).toUInt32 &&& Int32.toUInt32 31)).toInt32), I, J))))) else (if ((((l0 ^^^ ((-1))) &&& (l0 - 1)).toUInt32 >>> ((16 : Int32).toUInt32 &&& Int32.toUInt32 31)).toInt32) ≤ 256 then (if ((((l0 ^^^ ((-1))) &&& (l0 - 1)).toUInt32 >>> ((16 : Int32).toUInt32 &&& Int32.toUInt32 31)).toInt32) ≤ 16 then (if ((((l0 ^^^ ((-1))) &&& (l0 - 1)).toUInt32 >>> ((16 : Int32).toUInt32 &&& Int32.toUInt32 31)).toInt32) ≤ 4 then (some ((1 + 16) + ((((((l0 ^^^ ((-1))) &&& (l0 - 1)).toUInt32 >>> ((16 : Int32).toUInt32 &&& Int32.toUInt32 31)).toInt32).toUInt32 >>> ((1 : Int32).toUInt32 &&& Int32.toUInt32 31)).toInt32), I, J)) else (some (((1 + 16) + 2) + ((((((((l0 ^^^ ((-1))) &&& (l0 - 1)).toUInt32 >>> ((16 : Int32).toUInt32 &&& Int32.toUInt32 31)).toInt32).toUInt32 >>> ((2 : Int32).toUInt32 &&& Int32.toUInt32 31)).toInt32).toUInt32 >>> ((1 : Int32).toUInt32 &&& Int32.toUInt32 31)).toInt32), I, J))) else (if ((((((l0 ^^^ ((-1))) &&& (l0 - 1)).toUInt32 >>> ((16 : Int32).toUInt32 &&& Int32.toUInt32 31)).toInt32).toUInt32 >>> ((4 : Int32).toUInt32 &&& Int32.toUInt32 31)).toInt32) ≤ 4 then (some (((1 + 16) + 4) + ((((((((l0 ^^^ ((-1))) &&& (l0 - 1)).toUInt32 >>> ((16 : Int32).toUInt32 &&& Int32.toUInt32 31)).toInt32).toUInt32 >>> ((4 : Int32).toUInt32 &&& Int32.toUInt32 31)).toInt32).toUInt32 >>> ((1 : Int32).toUInt32 &&& Int32.toUInt32 31)).toInt32), I, J)) else (some ((((1 + 16) + 4) + 2) + ((((((((((l0 ^^^ ((-1))) &&& (l0 - 1)).toUInt32 >>> ((16 : Int32).toUInt32 &&& Int32.toUInt32 31)).toInt32).toUInt32 >>> ((4 : Int32).toUInt32 &&& Int32.toUInt32 31)).toInt32).toUInt32 >>> ((2 : Int32).toUInt32 &&& Int32.toUInt32 31)).toInt32).toUInt32 >>> ((1 : Int32).toUInt32 &&& Int32.toUInt32 31)).toInt32), I, J)))) else (if ((((((l0 ^^^ ((-1))) &&& (l0 - 1)).toUInt32 >>> ((16 : Int32).toUInt32 &&& Int32.toUInt32 31)).toInt32).toUInt32 >>> ((8 : Int32).toUInt32 &&& Int32.toUInt32 31)).toInt32) ≤ 16 then (if ((((((l0 ^^^ ((-1))) &&& (l0 - 1)).toUInt32 >>> ((16 : Int32).toUInt32 &&& Int32.toUInt32 31)).toInt32).toUInt32 >>> ((8 : Int32).toUInt32 &&& Int32.toUInt32 31)).toInt32) ≤ 4 then (some (((1 + 16) + 8) + ((((((((l0 ^^^ ((-1))) &&& (l0 - 1)).toUInt32 >>> ((16 : Int32).toUInt32 &&& Int32.toUInt32 31)).toInt32).toUInt32 >>> ((8 : Int32).toUInt32 &&& Int32.toUInt32 31)).toInt32).toUInt32 >>> ((1 : Int32).toUInt32 &&& Int32.toUInt32 31)).toInt32), I, J)) else (some ((((1 + 16) + 8) + 2) + ((((((((((l0 ^^^ ((-1))) &&& (l0 - 1)).toUInt32 >>> ((16 : Int32).toUInt32 &&& Int32.toUInt32 31)).toInt32).toUInt32 >>> ((8 : Int32).toUInt32 &&& Int32.toUInt32 31)).toInt32).toUInt32 >>> ((2 : Int32).toUInt32 &&& Int32.toUInt32 31)).toInt32).toUInt32 >>> ((1 : Int32).toUInt32 &&& Int32.toUInt32 31)).toInt32), I, J))) else (if ((((((((l0 ^^^ ((-1))) &&& (l0 - 1)).toUInt32 >>> ((16 : Int32).toUInt32 &&& Int32.toUInt32 31)).toInt32).toUInt32 >>> ((8 : Int32).toUInt32 &&& Int32.toUInt32 31)).toInt32).toUInt32 >>> ((4 : Int32).toUInt32 &&& Int32.toUInt32 31)).toInt32) ≤ 4 then (some ((((1 + 16) + 8) + 4) + ((((((((((l0 ^^^ ((-1))) &&& (l0 - 1)).toUInt32 >>> ((16 : Int32).toUInt32 &&& Int32.toUInt32 31)).toInt32).toUInt32 >>> ((8 : Int32).toUInt32 &&& Int32.toUInt32 31)).toInt32).toUInt32 >>> ((4 : Int32).toUInt32 &&& Int32.toUInt32 31)).toInt32).toUInt32 >>> ((1 : Int32).toUInt32 &&& Int32.toUInt32 31)).toInt32), I, J)) else (some (((((1 + 16) + 8) + 4) + 2) + ((((((((((((l0 ^^^ ((-1))) &&& (l0 - 1)).toUInt32 >>> ((16 : Int32).toUInt32 &&& Int32.toUInt32 31)).toInt32).toUInt32 >>> ((8 : Int32).toUInt32 &&& Int32.toUInt32 31)).toInt32).toUInt32 >>> ((4 : Int32).toUInt32 &&& Int32.toUInt32 31)).toInt32).toUInt32 >>> ((2 : Int32).toUInt32 &&& Int32.toUInt32 31)).toInt32).toUInt32 >>> ((1 : Int32).toUInt32 &&& Int32.toUInt32 31)).toInt32), I, J)))))) else (some (((l0 ^^^ ((-1))) &&& (l0 - 1)) &&& 32, I, J))
def zl_J6_numberOfTrailingZeros (N : Nat) : Nat → Nat → Int32 → (Nat → Nat → Int32) → (Nat → Nat → Int64) → Option (Int32 × (Nat → Nat → Int32) × (Nat → Nat → Int64))
  | 0 => fun _ _ _ _ => none
  | n + 1 => fun pc l0 I J => if pc = 0 then zb_J6_numberOfTrailingZeros_0 N (zl_J6_numberOfTrailingZeros N n) l0 I J else none
theorem ze_J6_numberOfTrailingZeros_0 (N : Nat) (n : Nat) (l0 : Int32) (I : Nat → Nat → Int32) (J : Nat → Nat → Int64) : zl_J6_numberOfTrailingZeros N (n+1) 0 l0 I J = zb_J6_numberOfTrailingZeros_0 N (zl_J6_numberOfTrailingZeros N n) l0 I J := by
  show (if 0 = 0 then zb_J6_numberOfTrailingZeros_0 N (zl_J6_numberOfTrailingZeros N n) l0 I J else none) = _
  rw [if_pos rfl]
def zf_J6_numberOfTrailingZeros (N : Nat) (l0 : Int32) (I : Nat → Nat → Int32) (J : Nat → Nat → Int64) : Option (Int32 × (Nat → Nat → Int32) × (Nat → Nat → Int64)) := zl_J6_numberOfTrailingZeros N N 0 l0 I J
theorem zq_J6_numberOfTrailingZeros (F : zz_F) (d N : Nat) : ∀ n : Nat, (∀ (l0 : Int32) (I : Nat → Nat → Int32) (J : Nat → Nat → Int64) (r : Int32 × (Nat → Nat → Int32) × (Nat → Nat → Int64)), zl_J6_numberOfTrailingZeros N n 0 l0 I J = some r → zz_run (d) 307 0 [some (.int l0), none] [] (zz_S F I J) (some (.int r.1)) (zz_S F I J)) := by
  intro n
  induction n with
  | zero => exact fun _ _ _ _ h => zz_no h
  | succ n ih =>
    have ih0 := ih
    skip
    · intro l0 I J r hr
      rw [ze_J6_numberOfTrailingZeros_0] at hr
      unfold zb_J6_numberOfTrailingZeros_0 at hr
      refine zs_307_0 ?_
      refine And.intro (fun (h1 : 0 < ((l0 ^^^ ((-1))) &&& (l0 - 1))) => ?_) (fun (h1 : ¬ (0 < ((l0 ^^^ ((-1))) &&& (l0 - 1)))) => ?_)
      · rw [if_pos h1] at hr
        show zz_run _ 307 17 [some (.int ((l0 ^^^ ((-1))) &&& (l0 - 1))), none] [] (zz_S F I J) _ _
        refine zs_307_17 ?_
        refine And.intro (fun (h2 : ((l0 ^^^ ((-1))) &&& (l0 - 1)) ≤ 65536) => ?_) (fun (h2 : ¬ (((l0 ^^^ ((-1))) &&& (l0 - 1)) ≤ 65536)) => ?_)
        · rw [if_pos h2] at hr
          show zz_run _ 307 34 [some (.int ((l0 ^^^ ((-1))) &&& (l0 - 1))), some (.int 1)] [] (zz_S F I J) _ _
          refine zs_307_34 ?_
          refine And.intro (fun (h3 : ((l0 ^^^ ((-1))) &&& (l0 - 1)) ≤ 256) => ?_) (fun (h3 : ¬ (((l0 ^^^ ((-1))) &&& (l0 - 1)) ≤ 256)) => ?_)
          · rw [if_pos h3] at hr
            show zz_run _ 307 49 [some (.int ((l0 ^^^ ((-1))) &&& (l0 - 1))), some (.int 1)] [] (zz_S F I J) _ _
            refine zs_307_49 ?_
            refine And.intro (fun (h4 : ((l0 ^^^ ((-1))) &&& (l0 - 1)) ≤ 16) => ?_) (fun (h4 : ¬ (((l0 ^^^ ((-1))) &&& (l0 - 1)) ≤ 16)) => ?_)
            · rw [if_pos h4] at hr
              show zz_run _ 307 62 [some (.int ((l0 ^^^ ((-1))) &&& (l0 - 1))), some (.int 1)] [] (zz_S F I J) _ _
              refine zs_307_62 ?_
              refine And.intro (fun (h5 : ((l0 ^^^ ((-1))) &&& (l0 - 1)) ≤ 4) => ?_) (fun (h5 : ¬ (((l0 ^^^ ((-1))) &&& (l0 - 1)) ≤ 4)) => ?_)
              · rw [if_pos h5] at hr
                show zz_run _ 307 74 [some (.int ((l0 ^^^ ((-1))) &&& (l0 - 1))), some (.int 1)] [] (zz_S F I J) _ _
                refine zs_307_74 ?_
                replace hr := Option.some.inj hr
                subst hr
                exact And.intro rfl (And.intro rfl rfl)
              · rw [if_neg h5] at hr
                show zz_run _ 307 74 [some (.int ((((l0 ^^^ ((-1))) &&& (l0 - 1)).toUInt32 >>> ((2 : Int32).toUInt32 &&& Int32.toUInt32 31)).toInt32)), some (.int (1 + 2))] [] (zz_S F I J) _ _
                refine zs_307_74 ?_
                replace hr := Option.some.inj hr
                subst hr
                exact And.intro rfl (And.intro rfl rfl)
            · rw [if_neg h4] at hr
              show zz_run _ 307 62 [some (.int ((((l0 ^^^ ((-1))) &&& (l0 - 1)).toUInt32 >>> ((4 : Int32).toUInt32 &&& Int32.toUInt32 31)).toInt32)), some (.int (1 + 4))] [] (zz_S F I J) _ _
              refine zs_307_62 ?_
              refine And.intro (fun (h6 : ((((l0 ^^^ ((-1))) &&& (l0 - 1)).toUInt32 >>> ((4 : Int32).toUInt32 &&& Int32.toUInt32 31)).toInt32) ≤ 4) => ?_) (fun (h6 : ¬ (((((l0 ^^^ ((-1))) &&& (l0 - 1)).toUInt32 >>> ((4 : Int32).toUInt32 &&& Int32.toUInt32 31)).toInt32) ≤ 4)) => ?_)
              · rw [if_pos h6] at hr
                show zz_run _ 307 74 [some (.int ((((l0 ^^^ ((-1))) &&& (l0 - 1)).toUInt32 >>> ((4 : Int32).toUInt32 &&& Int32.toUInt32 31)).toInt32)), some (.int (1 + 4))] [] (zz_S F I J) _ _
                refine zs_307_74 ?_
                replace hr := Option.some.inj hr
                subst hr
                exact And.intro rfl (And.intro rfl rfl)
              · rw [if_neg h6] at hr
                show zz_run _ 307 74 [some (.int ((((((l0 ^^^ ((-1))) &&& (l0 - 1)).toUInt32 >>> ((4 : Int32).toUInt32 &&& Int32.toUInt32 31)).toInt32).toUInt32 >>> ((2 : Int32).toUInt32 &&& Int32.toUInt32 31)).toInt32)), some (.int ((1 + 4) + 2))] [] (zz_S F I J) _ _
                refine zs_307_74 ?_
                replace hr := Option.some.inj hr
                subst hr
                exact And.intro rfl (And.intro rfl rfl)
          · rw [if_neg h3] at hr
            show zz_run _ 307 49 [some (.int ((((l0 ^^^ ((-1))) &&& (l0 - 1)).toUInt32 >>> ((8 : Int32).toUInt32 &&& Int32.toUInt32 31)).toInt32)), some (.int (1 + 8))] [] (zz_S F I J) _ _
            refine zs_307_49 ?_
            refine And.intro (fun (h7 : ((((l0 ^^^ ((-1))) &&& (l0 - 1)).toUInt32 >>> ((8 : Int32).toUInt32 &&& Int32.toUInt32 31)).toInt32) ≤ 16) => ?_) (fun (h7 : ¬ (((((l0 ^^^ ((-1))) &&& (l0 - 1)).toUInt32 >>> ((8 : Int32).toUInt32 &&& Int32.toUInt32 31)).toInt32) ≤ 16)) => ?_)
            · rw [if_pos h7] at hr
              show zz_run _ 307 62 [some (.int ((((l0 ^^^ ((-1))) &&& (l0 - 1)).toUInt32 >>> ((8 : Int32).toUInt32 &&& Int32.toUInt32 31)).toInt32)), some (.int (1 + 8))] [] (zz_S F I J) _ _
              refine zs_307_62 ?_
              refine And.intro (fun (h8 : ((((l0 ^^^ ((-1))) &&& (l0 - 1)).toUInt32 >>> ((8 : Int32).toUInt32 &&& Int32.toUInt32 31)).toInt32) ≤ 4) => ?_) (fun (h8 : ¬ (((((l0 ^^^ ((-1))) &&& (l0 - 1)).toUInt32 >>> ((8 : Int32).toUInt32 &&& Int32.toUInt32 31)).toInt32) ≤ 4)) => ?_)
              · rw [if_pos h8] at hr
                show zz_run _ 307 74 [some (.int ((((l0 ^^^ ((-1))) &&& (l0 - 1)).toUInt32 >>> ((8 : Int32).toUInt32 &&& Int32.toUInt32 31)).toInt32)), some (.int (1 + 8))] [] (zz_S F I J) _ _
                refine zs_307_74 ?_
                replace hr := Option.some.inj hr
                subst hr
                exact And.intro rfl (And.intro rfl rfl)
              · rw [if_neg h8] at hr
                show zz_run _ 307 74 [some (.int ((((((l0 ^^^ ((-1))) &&& (l0 - 1)).toUInt32 >>> ((8 : Int32).toUInt32 &&& Int32.toUInt32 31)).toInt32).toUInt32 >>> ((2 : Int32).toUInt32 &&& Int32.toUInt32 31)).toInt32)), some (.int ((1 + 8) + 2))] [] (zz_S F I J) _ _
                refine zs_307_74 ?_
                replace hr := Option.some.inj hr
                subst hr
                exact And.intro rfl (And.intro rfl rfl)
            · rw [if_neg h7] at hr
              show zz_run _ 307 62 [some (.int ((((((l0 ^^^ ((-1))) &&& (l0 - 1)).toUInt32 >>> ((8 : Int32).toUInt32 &&& Int32.toUInt32 31)).toInt32).toUInt32 >>> ((4 : Int32).toUInt32 &&& Int32.toUInt32 31)).toInt32)), some (.int ((1 + 8) + 4))] [] (zz_S F I J) _ _
              refine zs_307_62 ?_
              refine And.intro (fun (h9 : ((((((l0 ^^^ ((-1))) &&& (l0 - 1)).toUInt32 >>> ((8 : Int32).toUInt32 &&& Int32.toUInt32 31)).toInt32).toUInt32 >>> ((4 : Int32).toUInt32 &&& Int32.toUInt32 31)).toInt32) ≤ 4) => ?_) (fun (h9 : ¬ (((((((l0 ^^^ ((-1))) &&& (l0 - 1)).toUInt32 >>> ((8 : Int32).toUInt32 &&& Int32.toUInt32 31)).toInt32).toUInt32 >>> ((4 : Int32).toUInt32 &&& Int32.toUInt32 31)).toInt32) ≤ 4)) => ?_)
              · rw [if_pos h9] at hr
                show zz_run _ 307 74 [some (.int ((((((l0 ^^^ ((-1))) &&& (l0 - 1)).toUInt32 >>> ((8 : Int32).toUInt32 &&& Int32.toUInt32 31)).toInt32).toUInt32 >>> ((4 : Int32).toUInt32 &&& Int32.toUInt32 31)).toInt32)), some (.int ((1 + 8) + 4))] [] (zz_S F I J) _ _
                refine zs_307_74 ?_
                replace hr := Option.some.inj hr
                subst hr
                exact And.intro rfl (And.intro rfl rfl)
              · rw [if_neg h9] at hr
                show zz_run _ 307 74 [some (.int ((((((((l0 ^^^ ((-1))) &&& (l0 - 1)).toUInt32 >>> ((8 : Int32).toUInt32 &&& Int32.toUInt32 31)).toInt32).toUInt32 >>> ((4 : Int32).toUInt32 &&& Int32.toUInt32 31)).toInt32).toUInt32 >>> ((2 : Int32).toUInt32 &&& Int32.toUInt32 31)).toInt32)), some (.int (((1 + 8) + 4) + 2))] [] (zz_S F I J) _ _
                refine zs_307_74 ?_
                replace hr := Option.some.inj hr
                subst hr
                exact And.intro rfl (And.intro rfl rfl)
        · rw [if_neg h2] at hr
          show zz_run _ 307 34 [some (.int ((((l0 ^^^ ((-1))) &&& (l0 - 1)).toUInt32 >>> ((16 : Int32).toUInt32 &&& Int32.toUInt32 31)).toInt32)), some (.int (1 + 16))] [] (zz_S F I J) _ _
          refine zs_307_34 ?_
          refine And.intro (fun (h10 : ((((l0 ^^^ ((-1))) &&& (l0 - 1)).toUInt32 >>> ((16 : Int32).toUInt32 &&& Int32.toUInt32 31)).toInt32) ≤ 256) => ?_) (fun (h10 : ¬ (((((l0 ^^^ ((-1))) &&& (l0 - 1)).toUInt32 >>> ((16 : Int32).toUInt32 &&& Int32.toUInt32 31)).toInt32) ≤ 256)) => ?_)
          · rw [if_pos h10] at hr
            show zz_run _ 307 49 [some (.int ((((l0 ^^^ ((-1))) &&& (l0 - 1)).toUInt32 >>> ((16 : Int32).toUInt32 &&& Int32.toUInt32 31)).toInt32)), some (.int (1 + 16))] [] (zz_S F I J) _ _
            refine zs_307_49 ?_
            refine And.intro (fun (h11 : ((((l0 ^^^ ((-1))) &&& (l0 - 1)).toUInt32 >>> ((16 : Int32).toUInt32 &&& Int32.toUInt32 31)).toInt32) ≤ 16) => ?_) (fun (h11 : ¬ (((((l0 ^^^ ((-1))) &&& (l0 - 1)).toUInt32 >>> ((16 : Int32).toUInt32 &&& Int32.toUInt32 31)).toInt32) ≤ 16)) => ?_)
            · rw [if_pos h11] at hr
              show zz_run _ 307 62 [some (.int ((((l0 ^^^ ((-1))) &&& (l0 - 1)).toUInt32 >>> ((16 : Int32).toUInt32 &&& Int32.toUInt32 31)).toInt32)), some (.int (1 + 16))] [] (zz_S F I J) _ _
              refine zs_307_62 ?_
              refine And.intro (fun (h12 : ((((l0 ^^^ ((-1))) &&& (l0 - 1)).toUInt32 >>> ((16 : Int32).toUInt32 &&& Int32.toUInt32 31)).toInt32) ≤ 4) => ?_) (fun (h12 : ¬ (((((l0 ^^^ ((-1))) &&& (l0 - 1)).toUInt32 >>> ((16 : Int32).toUInt32 &&& Int32.toUInt32 31)).toInt32) ≤ 4)) => ?_)
              · rw [if_pos h12] at hr
                show zz_run _ 307 74 [some (.int ((((l0 ^^^ ((-1))) &&& (l0 - 1)).toUInt32 >>> ((16 : Int32).toUInt32 &&& Int32.toUInt32 31)).toInt32)), some (.int (1 + 16))] [] (zz_S F I J) _ _
                refine zs_307_74 ?_
                replace hr := Option.some.inj hr
                subst hr
                exact And.intro rfl (And.intro rfl rfl)
              · rw [if_neg h12] at hr
                show zz_run _ 307 74 [some (.int ((((((l0 ^^^ ((-1))) &&& (l0 - 1)).toUInt32 >>> ((16 : Int32).toUInt32 &&& Int32.toUInt32 31)).toInt32).toUInt32 >>> ((2 : Int32).toUInt32 &&& Int32.toUInt32 31)).toInt32)), some (.int ((1 + 16) + 2))] [] (zz_S F I J) _ _
                refine zs_307_74 ?_
                replace hr := Option.some.inj hr
                subst hr
                exact And.intro rfl (And.intro rfl rfl)
            · rw [if_neg h11] at hr
              show zz_run _ 307 62 [some (.int ((((((l0 ^^^ ((-1))) &&& (l0 - 1)).toUInt32 >>> ((16 : Int32).toUInt32 &&& Int32.toUInt32 31)).toInt32).toUInt32 >>> ((4 : Int32).toUInt32 &&& Int32.toUInt32 31)).toInt32)), some (.int ((1 + 16) + 4))] [] (zz_S F I J) _ _
              refine zs_307_62 ?_
              refine And.intro (fun (h13 : ((((((l0 ^^^ ((-1))) &&& (l0 - 1)).toUInt32 >>> ((16 : Int32).toUInt32 &&& Int32.toUInt32 31)).toInt32).toUInt32 >>> ((4 : Int32).toUInt32 &&& Int32.toUInt32 31)).toInt32) ≤ 4) => ?_) (fun (h13 : ¬ (((((((l0 ^^^ ((-1))) &&& (l0 - 1)).toUInt32 >>> ((16 : Int32).toUInt32 &&& Int32.toUInt32 31)).toInt32).toUInt32 >>> ((4 : Int32).toUInt32 &&& Int32.toUInt32 31)).toInt32) ≤ 4)) => ?_)
              · rw [if_pos h13] at hr
                show zz_run _ 307 74 [some (.int ((((((l0 ^^^ ((-1))) &&& (l0 - 1)).toUInt32 >>> ((16 : Int32).toUInt32 &&& Int32.toUInt32 31)).toInt32).toUInt32 >>> ((4 : Int32).toUInt32 &&& Int32.toUInt32 31)).toInt32)), some (.int ((1 + 16) + 4))] [] (zz_S F I J) _ _
                refine zs_307_74 ?_
                replace hr := Option.some.inj hr
                subst hr
                exact And.intro rfl (And.intro rfl rfl)
              · rw [if_neg h13] at hr
                show zz_run _ 307 74 [some (.int ((((((((l0 ^^^ ((-1))) &&& (l0 - 1)).toUInt32 >>> ((16 : Int32).toUInt32 &&& Int32.toUInt32 31)).toInt32).toUInt32 >>> ((4 : Int32).toUInt32 &&& Int32.toUInt32 31)).toInt32).toUInt32 >>> ((2 : Int32).toUInt32 &&& Int32.toUInt32 31)).toInt32)), some (.int (((1 + 16) + 4) + 2))] [] (zz_S F I J) _ _
                refine zs_307_74 ?_
                replace hr := Option.some.inj hr
                subst hr
                exact And.intro rfl (And.intro rfl rfl)
          · rw [if_neg h10] at hr
            show zz_run _ 307 49 [some (.int ((((((l0 ^^^ ((-1))) &&& (l0 - 1)).toUInt32 >>> ((16 : Int32).toUInt32 &&& Int32.toUInt32 31)).toInt32).toUInt32 >>> ((8 : Int32).toUInt32 &&& Int32.toUInt32 31)).toInt32)), some (.int ((1 + 16) + 8))] [] (zz_S F I J) _ _
            refine zs_307_49 ?_
            refine And.intro (fun (h14 : ((((((l0 ^^^ ((-1))) &&& (l0 - 1)).toUInt32 >>> ((16 : Int32).toUInt32 &&& Int32.toUInt32 31)).toInt32).toUInt32 >>> ((8 : Int32).toUInt32 &&& Int32.toUInt32 31)).toInt32) ≤ 16) => ?_) (fun (h14 : ¬ (((((((l0 ^^^ ((-1))) &&& (l0 - 1)).toUInt32 >>> ((16 : Int32).toUInt32 &&& Int32.toUInt32 31)).toInt32).toUInt32 >>> ((8 : Int32).toUInt32 &&& Int32.toUInt32 31)).toInt32) ≤ 16)) => ?_)
            · rw [if_pos h14] at hr
              show zz_run _ 307 62 [some (.int ((((((l0 ^^^ ((-1))) &&& (l0 - 1)).toUInt32 >>> ((16 : Int32).toUInt32 &&& Int32.toUInt32 31)).toInt32).toUInt32 >>> ((8 : Int32).toUInt32 &&& Int32.toUInt32 31)).toInt32)), some (.int ((1 + 16) + 8))] [] (zz_S F I J) _ _
              refine zs_307_62 ?_
              refine And.intro (fun (h15 : ((((((l0 ^^^ ((-1))) &&& (l0 - 1)).toUInt32 >>> ((16 : Int32).toUInt32 &&& Int32.toUInt32 31)).toInt32).toUInt32 >>> ((8 : Int32).toUInt32 &&& Int32.toUInt32 31)).toInt32) ≤ 4) => ?_) (fun (h15 : ¬ (((((((l0 ^^^ ((-1))) &&& (l0 - 1)).toUInt32 >>> ((16 : Int32).toUInt32 &&& Int32.toUInt32 31)).toInt32).toUInt32 >>> ((8 : Int32).toUInt32 &&& Int32.toUInt32 31)).toInt32) ≤ 4)) => ?_)
              · rw [if_pos h15] at hr
                show zz_run _ 307 74 [some (.int ((((((l0 ^^^ ((-1))) &&& (l0 - 1)).toUInt32 >>> ((16 : Int32).toUInt32 &&& Int32.toUInt32 31)).toInt32).toUInt32 >>> ((8 : Int32).toUInt32 &&& Int32.toUInt32 31)).toInt32)), some (.int ((1 + 16) + 8))] [] (zz_S F I J) _ _
                refine zs_307_74 ?_
                replace hr := Option.some.inj hr
                subst hr
                exact And.intro rfl (And.intro rfl rfl)
              · rw [if_neg h15] at hr
                show zz_run _ 307 74 [some (.int ((((((((l0 ^^^ ((-1))) &&& (l0 - 1)).toUInt32 >>> ((16 : Int32).toUInt32 &&& Int32.toUInt32 31)).toInt32).toUInt32 >>> ((8 : Int32).toUInt32 &&& Int32.toUInt32 31)).toInt32).toUInt32 >>> ((2 : Int32).toUInt32 &&& Int32.toUInt32 31)).toInt32)), some (.int (((1 + 16) + 8) + 2))] [] (zz_S F I J) _ _
                refine zs_307_74 ?_
                replace hr := Option.some.inj hr
                subst hr
                exact And.intro rfl (And.intro rfl rfl)
            · rw [if_neg h14] at hr
              show zz_run _ 307 62 [some (.int ((((((((l0 ^^^ ((-1))) &&& (l0 - 1)).toUInt32 >>> ((16 : Int32).toUInt32 &&& Int32.toUInt32 31)).toInt32).toUInt32 >>> ((8 : Int32).toUInt32 &&& Int32.toUInt32 31)).toInt32).toUInt32 >>> ((4 : Int32).toUInt32 &&& Int32.toUInt32 31)).toInt32)), some (.int (((1 + 16) + 8) + 4))] [] (zz_S F I J) _ _
              refine zs_307_62 ?_
              refine And.intro (fun (h16 : ((((((((l0 ^^^ ((-1))) &&& (l0 - 1)).toUInt32 >>> ((16 : Int32).toUInt32 &&& Int32.toUInt32 31)).toInt32).toUInt32 >>> ((8 : Int32).toUInt32 &&& Int32.toUInt32 31)).toInt32).toUInt32 >>> ((4 : Int32).toUInt32 &&& Int32.toUInt32 31)).toInt32) ≤ 4) => ?_) (fun (h16 : ¬ (((((((((l0 ^^^ ((-1))) &&& (l0 - 1)).toUInt32 >>> ((16 : Int32).toUInt32 &&& Int32.toUInt32 31)).toInt32).toUInt32 >>> ((8 : Int32).toUInt32 &&& Int32.toUInt32 31)).toInt32).toUInt32 >>> ((4 : Int32).toUInt32 &&& Int32.toUInt32 31)).toInt32) ≤ 4)) => ?_)
              · rw [if_pos h16] at hr
                show zz_run _ 307 74 [some (.int ((((((((l0 ^^^ ((-1))) &&& (l0 - 1)).toUInt32 >>> ((16 : Int32).toUInt32 &&& Int32.toUInt32 31)).toInt32).toUInt32 >>> ((8 : Int32).toUInt32 &&& Int32.toUInt32 31)).toInt32).toUInt32 >>> ((4 : Int32).toUInt32 &&& Int32.toUInt32 31)).toInt32)), some (.int (((1 + 16) + 8) + 4))] [] (zz_S F I J) _ _
                refine zs_307_74 ?_
                replace hr := Option.some.inj hr
                subst hr
                exact And.intro rfl (And.intro rfl rfl)
              · rw [if_neg h16] at hr
                show zz_run _ 307 74 [some (.int ((((((((((l0 ^^^ ((-1))) &&& (l0 - 1)).toUInt32 >>> ((16 : Int32).toUInt32 &&& Int32.toUInt32 31)).toInt32).toUInt32 >>> ((8 : Int32).toUInt32 &&& Int32.toUInt32 31)).toInt32).toUInt32 >>> ((4 : Int32).toUInt32 &&& Int32.toUInt32 31)).toInt32).toUInt32 >>> ((2 : Int32).toUInt32 &&& Int32.toUInt32 31)).toInt32)), some (.int ((((1 + 16) + 8) + 4) + 2))] [] (zz_S F I J) _ _
                refine zs_307_74 ?_
                replace hr := Option.some.inj hr
                subst hr
                exact And.intro rfl (And.intro rfl rfl)
      · rw [if_neg h1] at hr
        replace hr := Option.some.inj hr
        subst hr
        exact And.intro rfl (And.intro rfl rfl)
theorem zr_J6_numberOfTrailingZeros (F : zz_F) (I : Nat → Nat → Int32) (J : Nat → Nat → Int64) (d N : Nat) (l0 : Int32) (r : Int32 × (Nat → Nat → Int32) × (Nat → Nat → Int64)) (h : zf_J6_numberOfTrailingZeros N l0 I J = some r) : zz_run (d) 307 0 [some (.int l0), none] [] (zz_S F I J) (some (.int r.1)) (zz_S F I J) := (zq_J6_numberOfTrailingZeros F d N N) l0 I J r h
def zb_X12_held_0 (N : Nat) (call : Nat → Int32 → (Nat → Nat → Int32) → (Nat → Nat → Int64) → zz_F → Option (Int32 × (Nat → Nat → Int32) × (Nat → Nat → Int64) × zz_F)) (rec : Nat → Int32 → (Nat → Nat → Int32) → (Nat → Nat → Int64) → zz_F → Option (Int32 × (Nat → Nat → Int32) × (Nat → Nat → Int64) × zz_F)) (l1 : Int32) (I : Nat → Nat → Int32) (J : Nat → Nat → Int64) (F : zz_F) : Option (Int32 × (Nat → Nat → Int32) × (Nat → Nat → Int64) × zz_F) := (call 1 l1 I J F).bind fun r1 => (zf_X12_passes N 60 r1.2.1 r1.2.2.1 r1.2.2.2).bind fun r2 => if r2.1 = 0 then ((zf_X12_passes N 62 r2.2.1 r2.2.2.1 r2.2.2.2).bind fun r3 => if r3.1 = 0 then ((zf_X12_passes N 61 r3.2.1 r3.2.2.1 r3.2.2.2).bind fun r4 => if r4.1 = 0 then (some (r1.1, r4.2.1, r4.2.2.1, r4.2.2.2)) else ((call 1 l1 r4.2.1 r4.2.2.1 r4.2.2.2).bind fun r5 => if ¬ r1.1 = r5.1 then (some (0, r5.2.1, r5.2.2.1, r5.2.2.2)) else (some (1, r5.2.1, r5.2.2.1, r5.2.2.2)))) else ((call 1 l1 r3.2.1 r3.2.2.1 r3.2.2.2).bind fun r6 => if r1.1 ≤ r6.1 then (some (0, r6.2.1, r6.2.2.1, r6.2.2.2)) else (some (1, r6.2.1, r6.2.2.1, r6.2.2.2)))) else ((call 1 l1 r2.2.1 r2.2.2.1 r2.2.2.2).bind fun r7 => if r7.1 ≤ r1.1 then (some (0, r7.2.1, r7.2.2.1, r7.2.2.2)) else (some (1, r7.2.1, r7.2.2.1, r7.2.2.2)))
def zl_X12_held (N : Nat) (call : Nat → Int32 → (Nat → Nat → Int32) → (Nat → Nat → Int64) → zz_F → Option (Int32 × (Nat → Nat → Int32) × (Nat → Nat → Int64) × zz_F)) : Nat → Nat → Int32 → (Nat → Nat → Int32) → (Nat → Nat → Int64) → zz_F → Option (Int32 × (Nat → Nat → Int32) × (Nat → Nat → Int64) × zz_F)
  | 0 => fun _ _ _ _ _ => none
  | n + 1 => fun pc l1 I J F => if pc = 0 then zb_X12_held_0 N call (zl_X12_held N call n) l1 I J F else none
theorem ze_X12_held_0 (N : Nat) (call : Nat → Int32 → (Nat → Nat → Int32) → (Nat → Nat → Int64) → zz_F → Option (Int32 × (Nat → Nat → Int32) × (Nat → Nat → Int64) × zz_F)) (n : Nat) (l1 : Int32) (I : Nat → Nat → Int32) (J : Nat → Nat → Int64) (F : zz_F) : zl_X12_held N call (n+1) 0 l1 I J F = zb_X12_held_0 N call (zl_X12_held N call n) l1 I J F := by
  show (if 0 = 0 then zb_X12_held_0 N call (zl_X12_held N call n) l1 I J F else none) = _
  rw [if_pos rfl]
def zf_X12_held (N : Nat) (call : Nat → Int32 → (Nat → Nat → Int32) → (Nat → Nat → Int64) → zz_F → Option (Int32 × (Nat → Nat → Int32) × (Nat → Nat → Int64) × zz_F)) (l1 : Int32) (I : Nat → Nat → Int32) (J : Nat → Nat → Int64) (F : zz_F) : Option (Int32 × (Nat → Nat → Int32) × (Nat → Nat → Int64) × zz_F) := zl_X12_held N call N 0 l1 I J F
theorem zq_X12_held (d N : Nat) (call : Nat → Int32 → (Nat → Nat → Int32) → (Nat → Nat → Int64) → zz_F → Option (Int32 × (Nat → Nat → Int32) × (Nat → Nat → Int64) × zz_F)) (hc0 : ∀ (x0 : Int32) (I : Nat → Nat → Int32) (J : Nat → Nat → Int64) (F : zz_F) (r : Int32 × (Nat → Nat → Int32) × (Nat → Nat → Int64) × zz_F), call 0 x0 I J F = some r → zz_run (d+3) 224 0 [some (.ref 52), some (.int x0), none] [] (zz_S F I J) (some (.int r.1)) (zz_S r.2.2.2 r.2.1 r.2.2.1)) (hc1 : ∀ (x0 : Int32) (I : Nat → Nat → Int32) (J : Nat → Nat → Int64) (F : zz_F) (r : Int32 × (Nat → Nat → Int32) × (Nat → Nat → Int64) × zz_F), call 1 x0 I J F = some r → zz_run (d+3) 225 0 [some (.ref 52), some (.int x0), none, none, none] [] (zz_S F I J) (some (.int r.1)) (zz_S r.2.2.2 r.2.1 r.2.2.1)) (hc2 : ∀ (x0 : Int32) (I : Nat → Nat → Int32) (J : Nat → Nat → Int64) (F : zz_F) (r : Int32 × (Nat → Nat → Int32) × (Nat → Nat → Int64) × zz_F), call 2 x0 I J F = some r → zz_run (d+3) 226 0 [some (.ref 52), some (.int x0), none, none, none] [] (zz_S F I J) (some (.int r.1)) (zz_S r.2.2.2 r.2.1 r.2.2.1)) (hc3 : ∀ (x0 : Int32) (I : Nat → Nat → Int32) (J : Nat → Nat → Int64) (F : zz_F) (r : Int32 × (Nat → Nat → Int32) × (Nat → Nat → Int64) × zz_F), call 3 x0 I J F = some r → zz_run (d+3) 228 0 [some (.ref 52), some (.int x0), none, none] [] (zz_S F I J) (some (.int r.1)) (zz_S r.2.2.2 r.2.1 r.2.2.1)) : ∀ n : Nat, (∀ (l1 : Int32) (I : Nat → Nat → Int32) (J : Nat → Nat → Int64) (F : zz_F) (r : Int32 × (Nat → Nat → Int32) × (Nat → Nat → Int64) × zz_F), zl_X12_held N call n 0 l1 I J F = some r → zz_run (d+4) 224 0 [some (.ref 52), some (.int l1), none] [] (zz_S F I J) (some (.int r.1)) (zz_S (r.2.2.2) (r.2.1) (r.2.2.1))) := by
  intro n
  induction n with
  | zero => exact fun _ _ _ _ _ h => zz_no h
  | succ n ih =>
    have ih0 := ih
    skip
    · intro l1 I J F r hr
      rw [ze_X12_held_0] at hr
      unfold zb_X12_held_0 at hr
      refine zs_224_0 ?_
      refine And.intro (rfl) (And.intro (Nat.le_of_ble_eq_true rfl) (And.intro (Nat.le_of_ble_eq_true rfl) (And.intro (Nat.le_of_ble_eq_true rfl) ?_)))
      obtain ⟨r1, cr1, hr⟩ := Option.bind_eq_some_iff.mp hr
      refine Exists.intro _ (Exists.intro _ (And.intro (hc1 l1 I J F r1 cr1) ?_))
      refine And.intro (rfl) (And.intro (Nat.le_of_ble_eq_true rfl) (And.intro (Nat.le_of_ble_eq_true rfl) (And.intro (Nat.le_of_ble_eq_true rfl) ?_)))
      obtain ⟨r2, cr2, hr⟩ := Option.bind_eq_some_iff.mp hr
      refine Exists.intro _ (Exists.intro _ (And.intro (zr_X12_passes (d+2) N 60 r1.2.1 r1.2.2.1 r1.2.2.2 r2 cr2) ?_))
      refine And.intro (fun (h1 : r2.1 = 0) => ?_) (fun (h1 : ¬ (r2.1 = 0)) => ?_)
      · rw [if_pos h1] at hr
        show zz_run _ 224 30 [some (.ref 52), some (.int l1), some (.int r1.1)] [] (zz_S r2.2.2.2 r2.2.1 r2.2.2.1) _ _
        refine zs_224_30 ?_
        refine And.intro (rfl) (And.intro (Nat.le_of_ble_eq_true rfl) (And.intro (Nat.le_of_ble_eq_true rfl) (And.intro (Nat.le_of_ble_eq_true rfl) ?_)))
        obtain ⟨r3, cr3, hr⟩ := Option.bind_eq_some_iff.mp hr
        refine Exists.intro _ (Exists.intro _ (And.intro (zr_X12_passes (d+2) N 62 r2.2.1 r2.2.2.1 r2.2.2.2 r3 cr3) ?_))
        refine And.intro (fun (h2 : r3.1 = 0) => ?_) (fun (h2 : ¬ (r3.1 = 0)) => ?_)
        · rw [if_pos h2] at hr
          show zz_run _ 224 54 [some (.ref 52), some (.int l1), some (.int r1.1)] [] (zz_S r3.2.2.2 r3.2.1 r3.2.2.1) _ _
          refine zs_224_54 ?_
          refine And.intro (rfl) (And.intro (Nat.le_of_ble_eq_true rfl) (And.intro (Nat.le_of_ble_eq_true rfl) (And.intro (Nat.le_of_ble_eq_true rfl) ?_)))
          obtain ⟨r4, cr4, hr⟩ := Option.bind_eq_some_iff.mp hr
          refine Exists.intro _ (Exists.intro _ (And.intro (zr_X12_passes (d+2) N 61 r3.2.1 r3.2.2.1 r3.2.2.2 r4 cr4) ?_))
          refine And.intro (fun (h3 : r4.1 = 0) => ?_) (fun (h3 : ¬ (r4.1 = 0)) => ?_)
          · rw [if_pos h3] at hr
            show zz_run _ 224 78 [some (.ref 52), some (.int l1), some (.int r1.1)] [] (zz_S r4.2.2.2 r4.2.1 r4.2.2.1) _ _
            refine zs_224_78 ?_
            replace hr := Option.some.inj hr
            subst hr
            exact And.intro rfl (And.intro rfl rfl)
          · rw [if_neg h3] at hr
            refine And.intro (rfl) (And.intro (Nat.le_of_ble_eq_true rfl) (And.intro (Nat.le_of_ble_eq_true rfl) (And.intro (Nat.le_of_ble_eq_true rfl) ?_)))
            obtain ⟨r5, cr5, hr⟩ := Option.bind_eq_some_iff.mp hr
            refine Exists.intro _ (Exists.intro _ (And.intro (hc1 l1 r4.2.1 r4.2.2.1 r4.2.2.2 r5 cr5) ?_))
            refine And.intro (fun (h4 : ¬ r1.1 = r5.1) => ?_) (fun (h4 : ¬ (¬ r1.1 = r5.1)) => ?_)
            · rw [if_pos h4] at hr
              show zz_run _ 224 76 [some (.ref 52), some (.int l1), some (.int r1.1)] [] (zz_S r5.2.2.2 r5.2.1 r5.2.2.1) _ _
              refine zs_224_76 ?_
              show zz_run _ 224 77 [some (.ref 52), some (.int l1), some (.int r1.1)] [.int 0] (zz_S r5.2.2.2 r5.2.1 r5.2.2.1) _ _
              refine zs_224_77 ?_
              replace hr := Option.some.inj hr
              subst hr
              exact And.intro rfl (And.intro rfl rfl)
            · rw [if_neg h4] at hr
              show zz_run _ 224 77 [some (.ref 52), some (.int l1), some (.int r1.1)] [.int 1] (zz_S r5.2.2.2 r5.2.1 r5.2.2.1) _ _
              refine zs_224_77 ?_
              replace hr := Option.some.inj hr
              subst hr
              exact And.intro rfl (And.intro rfl rfl)
        · rw [if_neg h2] at hr
          refine And.intro (rfl) (And.intro (Nat.le_of_ble_eq_true rfl) (And.intro (Nat.le_of_ble_eq_true rfl) (And.intro (Nat.le_of_ble_eq_true rfl) ?_)))
          obtain ⟨r6, cr6, hr⟩ := Option.bind_eq_some_iff.mp hr
          refine Exists.intro _ (Exists.intro _ (And.intro (hc1 l1 r3.2.1 r3.2.2.1 r3.2.2.2 r6 cr6) ?_))
          refine And.intro (fun (h5 : r1.1 ≤ r6.1) => ?_) (fun (h5 : ¬ (r1.1 ≤ r6.1)) => ?_)
          · rw [if_pos h5] at hr
            show zz_run _ 224 52 [some (.ref 52), some (.int l1), some (.int r1.1)] [] (zz_S r6.2.2.2 r6.2.1 r6.2.2.1) _ _
            refine zs_224_52 ?_
            show zz_run _ 224 53 [some (.ref 52), some (.int l1), some (.int r1.1)] [.int 0] (zz_S r6.2.2.2 r6.2.1 r6.2.2.1) _ _
            refine zs_224_53 ?_
            replace hr := Option.some.inj hr
            subst hr
            exact And.intro rfl (And.intro rfl rfl)
          · rw [if_neg h5] at hr
            show zz_run _ 224 53 [some (.ref 52), some (.int l1), some (.int r1.1)] [.int 1] (zz_S r6.2.2.2 r6.2.1 r6.2.2.1) _ _
            refine zs_224_53 ?_
            replace hr := Option.some.inj hr
            subst hr
            exact And.intro rfl (And.intro rfl rfl)
      · rw [if_neg h1] at hr
        refine And.intro (rfl) (And.intro (Nat.le_of_ble_eq_true rfl) (And.intro (Nat.le_of_ble_eq_true rfl) (And.intro (Nat.le_of_ble_eq_true rfl) ?_)))
        obtain ⟨r7, cr7, hr⟩ := Option.bind_eq_some_iff.mp hr
        refine Exists.intro _ (Exists.intro _ (And.intro (hc1 l1 r2.2.1 r2.2.2.1 r2.2.2.2 r7 cr7) ?_))
        refine And.intro (fun (h6 : r7.1 ≤ r1.1) => ?_) (fun (h6 : ¬ (r7.1 ≤ r1.1)) => ?_)
        · rw [if_pos h6] at hr
          show zz_run _ 224 28 [some (.ref 52), some (.int l1), some (.int r1.1)] [] (zz_S r7.2.2.2 r7.2.1 r7.2.2.1) _ _
          refine zs_224_28 ?_
          show zz_run _ 224 29 [some (.ref 52), some (.int l1), some (.int r1.1)] [.int 0] (zz_S r7.2.2.2 r7.2.1 r7.2.2.1) _ _
          refine zs_224_29 ?_
          replace hr := Option.some.inj hr
          subst hr
          exact And.intro rfl (And.intro rfl rfl)
        · rw [if_neg h6] at hr
          show zz_run _ 224 29 [some (.ref 52), some (.int l1), some (.int r1.1)] [.int 1] (zz_S r7.2.2.2 r7.2.1 r7.2.2.1) _ _
          refine zs_224_29 ?_
          replace hr := Option.some.inj hr
          subst hr
          exact And.intro rfl (And.intro rfl rfl)
theorem zr_X12_held (d N : Nat) (call : Nat → Int32 → (Nat → Nat → Int32) → (Nat → Nat → Int64) → zz_F → Option (Int32 × (Nat → Nat → Int32) × (Nat → Nat → Int64) × zz_F)) (hc0 : ∀ (x0 : Int32) (I : Nat → Nat → Int32) (J : Nat → Nat → Int64) (F : zz_F) (r : Int32 × (Nat → Nat → Int32) × (Nat → Nat → Int64) × zz_F), call 0 x0 I J F = some r → zz_run (d+3) 224 0 [some (.ref 52), some (.int x0), none] [] (zz_S F I J) (some (.int r.1)) (zz_S r.2.2.2 r.2.1 r.2.2.1)) (hc1 : ∀ (x0 : Int32) (I : Nat → Nat → Int32) (J : Nat → Nat → Int64) (F : zz_F) (r : Int32 × (Nat → Nat → Int32) × (Nat → Nat → Int64) × zz_F), call 1 x0 I J F = some r → zz_run (d+3) 225 0 [some (.ref 52), some (.int x0), none, none, none] [] (zz_S F I J) (some (.int r.1)) (zz_S r.2.2.2 r.2.1 r.2.2.1)) (hc2 : ∀ (x0 : Int32) (I : Nat → Nat → Int32) (J : Nat → Nat → Int64) (F : zz_F) (r : Int32 × (Nat → Nat → Int32) × (Nat → Nat → Int64) × zz_F), call 2 x0 I J F = some r → zz_run (d+3) 226 0 [some (.ref 52), some (.int x0), none, none, none] [] (zz_S F I J) (some (.int r.1)) (zz_S r.2.2.2 r.2.1 r.2.2.1)) (hc3 : ∀ (x0 : Int32) (I : Nat → Nat → Int32) (J : Nat → Nat → Int64) (F : zz_F) (r : Int32 × (Nat → Nat → Int32) × (Nat → Nat → Int64) × zz_F), call 3 x0 I J F = some r → zz_run (d+3) 228 0 [some (.ref 52), some (.int x0), none, none] [] (zz_S F I J) (some (.int r.1)) (zz_S r.2.2.2 r.2.1 r.2.2.1)) (l1 : Int32) (I : Nat → Nat → Int32) (J : Nat → Nat → Int64) (F : zz_F) (r : Int32 × (Nat → Nat → Int32) × (Nat → Nat → Int64) × zz_F) (h : zf_X12_held N call l1 I J F = some r) : zz_run (d+4) 224 0 [some (.ref 52), some (.int l1), none] [] (zz_S F I J) (some (.int r.1)) (zz_S (r.2.2.2) (r.2.1) (r.2.2.1)) := (zq_X12_held d N call hc0 hc1 hc2 hc3 N) l1 I J F r h
def zb_X12_sum_0 (N : Nat) (call : Nat → Int32 → (Nat → Nat → Int32) → (Nat → Nat → Int64) → zz_F → Option (Int32 × (Nat → Nat → Int32) × (Nat → Nat → Int64) × zz_F)) (rec : Nat → Int32 → Int32 → (Nat → Nat → Int32) → (Nat → Nat → Int64) → zz_F → Option (Int32 × (Nat → Nat → Int32) × (Nat → Nat → Int64) × zz_F)) (l1 : Int32) (l2 : Int32) (I : Nat → Nat → Int32) (J : Nat → Nat → Int64) (F : zz_F) : Option (Int32 × (Nat → Nat → Int32) × (Nat → Nat → Int64) × zz_F) := (call 2 l1 I J F).bind fun r1 => rec 6 l1 r1.1 r1.2.1 r1.2.2.1 r1.2.2.2
def zb_X12_sum_6 (N : Nat) (call : Nat → Int32 → (Nat → Nat → Int32) → (Nat → Nat → Int64) → zz_F → Option (Int32 × (Nat → Nat → Int32) × (Nat → Nat → Int64) × zz_F)) (rec : Nat → Int32 → Int32 → (Nat → Nat → Int32) → (Nat → Nat → Int64) → zz_F → Option (Int32 × (Nat → Nat → Int32) × (Nat → Nat → Int64) × zz_F)) (l1 : Int32) (l2 : Int32) (I : Nat → Nat → Int32) (J : Nat → Nat → Int64) (F : zz_F) : Option (Int32 × (Nat → Nat → Int32) × (Nat → Nat → Int64) × zz_F) := if (zv_X12_fine I) = 0 then (rec 82 0 l2 I J F) else ((zf_X12_here N  I J F).bind fun r2 => if r2.1 = 43 then (rec 31 l1 l2 r2.2.1 r2.2.2.1 r2.2.2.2) else ((zf_X12_here N  r2.2.1 r2.2.2.1 r2.2.2.2).bind fun r3 => if ¬ r3.1 = 45 then (rec 82 0 l2 r3.2.1 r3.2.2.1 r3.2.2.2) else (rec 31 l1 l2 r3.2.1 r3.2.2.1 r3.2.2.2)))
def zb_X12_sum_31 (N : Nat) (call : Nat → Int32 → (Nat → Nat → Int32) → (Nat → Nat → Int64) → zz_F → Option (Int32 × (Nat → Nat → Int32) × (Nat → Nat → Int64) × zz_F)) (rec : Nat → Int32 → Int32 → (Nat → Nat → Int32) → (Nat → Nat → Int64) → zz_F → Option (Int32 × (Nat → Nat → Int32) × (Nat → Nat → Int64) × zz_F)) (l1 : Int32) (l2 : Int32) (I : Nat → Nat → Int32) (J : Nat → Nat → Int64) (F : zz_F) : Option (Int32 × (Nat → Nat → Int32) × (Nat → Nat → Int64) × zz_F) := (zf_X12_here N  I J F).bind fun r4 => if ¬ r4.1 = 43 then ((call 2 l1 (zz_u r4.2.1 52 11 ((r4.2.1 52 11) + 1)) r4.2.2.1 r4.2.2.2).bind fun r5 => if (0 : Int32) = 0 then (rec 6 l1 (l2 - r5.1) r5.2.1 r5.2.2.1 r5.2.2.2) else (rec 6 l1 (l2 + r5.1) r5.2.1 r5.2.2.1 r5.2.2.2)) else ((call 2 l1 (zz_u r4.2.1 52 11 ((r4.2.1 52 11) + 1)) r4.2.2.1 r4.2.2.2).bind fun r6 => if (1 : Int32) = 0 then (rec 6 l1 (l2 - r6.1) r6.2.1 r6.2.2.1 r6.2.2.2) else (rec 6 l1 (l2 + r6.1) r6.2.1 r6.2.2.1 r6.2.2.2))
def zb_X12_sum_82 (N : Nat) (call : Nat → Int32 → (Nat → Nat → Int32) → (Nat → Nat → Int64) → zz_F → Option (Int32 × (Nat → Nat → Int32) × (Nat → Nat → Int64) × zz_F)) (rec : Nat → Int32 → Int32 → (Nat → Nat → Int32) → (Nat → Nat → Int64) → zz_F → Option (Int32 × (Nat → Nat → Int32) × (Nat → Nat → Int64) × zz_F)) (l1 : Int32) (l2 : Int32) (I : Nat → Nat → Int32) (J : Nat → Nat → Int64) (F : zz_F) : Option (Int32 × (Nat → Nat → Int32) × (Nat → Nat → Int64) × zz_F) := some (l2, I, J, F)
def zl_X12_sum (N : Nat) (call : Nat → Int32 → (Nat → Nat → Int32) → (Nat → Nat → Int64) → zz_F → Option (Int32 × (Nat → Nat → Int32) × (Nat → Nat → Int64) × zz_F)) : Nat → Nat → Int32 → Int32 → (Nat → Nat → Int32) → (Nat → Nat → Int64) → zz_F → Option (Int32 × (Nat → Nat → Int32) × (Nat → Nat → Int64) × zz_F)
  | 0 => fun _ _ _ _ _ _ => none
  | n + 1 => fun pc l1 l2 I J F => if pc = 0 then zb_X12_sum_0 N call (zl_X12_sum N call n) l1 l2 I J F else (if pc = 6 then zb_X12_sum_6 N call (zl_X12_sum N call n) l1 l2 I J F else (if pc = 31 then zb_X12_sum_31 N call (zl_X12_sum N call n) l1 l2 I J F else (if pc = 82 then zb_X12_sum_82 N call (zl_X12_sum N call n) l1 l2 I J F else none)))
theorem ze_X12_sum_0 (N : Nat) (call : Nat → Int32 → (Nat → Nat → Int32) → (Nat → Nat → Int64) → zz_F → Option (Int32 × (Nat → Nat → Int32) × (Nat → Nat → Int64) × zz_F)) (n : Nat) (l1 : Int32) (l2 : Int32) (I : Nat → Nat → Int32) (J : Nat → Nat → Int64) (F : zz_F) : zl_X12_sum N call (n+1) 0 l1 l2 I J F = zb_X12_sum_0 N call (zl_X12_sum N call n) l1 l2 I J F := by
  show (if 0 = 0 then zb_X12_sum_0 N call (zl_X12_sum N call n) l1 l2 I J F else (if 0 = 6 then zb_X12_sum_6 N call (zl_X12_sum N call n) l1 l2 I J F else (if 0 = 31 then zb_X12_sum_31 N call (zl_X12_sum N call n) l1 l2 I J F else (if 0 = 82 then zb_X12_sum_82 N call (zl_X12_sum N call n) l1 l2 I J F else none)))) = _
  rw [if_pos rfl]
theorem ze_X12_sum_6 (N : Nat) (call : Nat → Int32 → (Nat → Nat → Int32) → (Nat → Nat → Int64) → zz_F → Option (Int32 × (Nat → Nat → Int32) × (Nat → Nat → Int64) × zz_F)) (n : Nat) (l1 : Int32) (l2 : Int32) (I : Nat → Nat → Int32) (J : Nat → Nat → Int64) (F : zz_F) : zl_X12_sum N call (n+1) 6 l1 l2 I J F = zb_X12_sum_6 N call (zl_X12_sum N call n) l1 l2 I J F := by
  show (if 6 = 0 then zb_X12_sum_0 N call (zl_X12_sum N call n) l1 l2 I J F else (if 6 = 6 then zb_X12_sum_6 N call (zl_X12_sum N call n) l1 l2 I J F else (if 6 = 31 then zb_X12_sum_31 N call (zl_X12_sum N call n) l1 l2 I J F else (if 6 = 82 then zb_X12_sum_82 N call (zl_X12_sum N call n) l1 l2 I J F else none)))) = _
  rw [if_neg (by decide), if_pos rfl]
theorem ze_X12_sum_31 (N : Nat) (call : Nat → Int32 → (Nat → Nat → Int32) → (Nat → Nat → Int64) → zz_F → Option (Int32 × (Nat → Nat → Int32) × (Nat → Nat → Int64) × zz_F)) (n : Nat) (l1 : Int32) (l2 : Int32) (I : Nat → Nat → Int32) (J : Nat → Nat → Int64) (F : zz_F) : zl_X12_sum N call (n+1) 31 l1 l2 I J F = zb_X12_sum_31 N call (zl_X12_sum N call n) l1 l2 I J F := by
  show (if 31 = 0 then zb_X12_sum_0 N call (zl_X12_sum N call n) l1 l2 I J F else (if 31 = 6 then zb_X12_sum_6 N call (zl_X12_sum N call n) l1 l2 I J F else (if 31 = 31 then zb_X12_sum_31 N call (zl_X12_sum N call n) l1 l2 I J F else (if 31 = 82 then zb_X12_sum_82 N call (zl_X12_sum N call n) l1 l2 I J F else none)))) = _
  rw [if_neg (by decide), if_neg (by decide), if_pos rfl]
theorem ze_X12_sum_82 (N : Nat) (call : Nat → Int32 → (Nat → Nat → Int32) → (Nat → Nat → Int64) → zz_F → Option (Int32 × (Nat → Nat → Int32) × (Nat → Nat → Int64) × zz_F)) (n : Nat) (l1 : Int32) (l2 : Int32) (I : Nat → Nat → Int32) (J : Nat → Nat → Int64) (F : zz_F) : zl_X12_sum N call (n+1) 82 l1 l2 I J F = zb_X12_sum_82 N call (zl_X12_sum N call n) l1 l2 I J F := by
  show (if 82 = 0 then zb_X12_sum_0 N call (zl_X12_sum N call n) l1 l2 I J F else (if 82 = 6 then zb_X12_sum_6 N call (zl_X12_sum N call n) l1 l2 I J F else (if 82 = 31 then zb_X12_sum_31 N call (zl_X12_sum N call n) l1 l2 I J F else (if 82 = 82 then zb_X12_sum_82 N call (zl_X12_sum N call n) l1 l2 I J F else none)))) = _
  rw [if_neg (by decide), if_neg (by decide), if_neg (by decide), if_pos rfl]
def zf_X12_sum (N : Nat) (call : Nat → Int32 → (Nat → Nat → Int32) → (Nat → Nat → Int64) → zz_F → Option (Int32 × (Nat → Nat → Int32) × (Nat → Nat → Int64) × zz_F)) (l1 : Int32) (I : Nat → Nat → Int32) (J : Nat → Nat → Int64) (F : zz_F) : Option (Int32 × (Nat → Nat → Int32) × (Nat → Nat → Int64) × zz_F) := zl_X12_sum N call N 0 l1 0 I J F
theorem zq_X12_sum (d N : Nat) (call : Nat → Int32 → (Nat → Nat → Int32) → (Nat → Nat → Int64) → zz_F → Option (Int32 × (Nat → Nat → Int32) × (Nat → Nat → Int64) × zz_F)) (hc0 : ∀ (x0 : Int32) (I : Nat → Nat → Int32) (J : Nat → Nat → Int64) (F : zz_F) (r : Int32 × (Nat → Nat → Int32) × (Nat → Nat → Int64) × zz_F), call 0 x0 I J F = some r → zz_run (d+3) 224 0 [some (.ref 52), some (.int x0), none] [] (zz_S F I J) (some (.int r.1)) (zz_S r.2.2.2 r.2.1 r.2.2.1)) (hc1 : ∀ (x0 : Int32) (I : Nat → Nat → Int32) (J : Nat → Nat → Int64) (F : zz_F) (r : Int32 × (Nat → Nat → Int32) × (Nat → Nat → Int64) × zz_F), call 1 x0 I J F = some r → zz_run (d+3) 225 0 [some (.ref 52), some (.int x0), none, none, none] [] (zz_S F I J) (some (.int r.1)) (zz_S r.2.2.2 r.2.1 r.2.2.1)) (hc2 : ∀ (x0 : Int32) (I : Nat → Nat → Int32) (J : Nat → Nat → Int64) (F : zz_F) (r : Int32 × (Nat → Nat → Int32) × (Nat → Nat → Int64) × zz_F), call 2 x0 I J F = some r → zz_run (d+3) 226 0 [some (.ref 52), some (.int x0), none, none, none] [] (zz_S F I J) (some (.int r.1)) (zz_S r.2.2.2 r.2.1 r.2.2.1)) (hc3 : ∀ (x0 : Int32) (I : Nat → Nat → Int32) (J : Nat → Nat → Int64) (F : zz_F) (r : Int32 × (Nat → Nat → Int32) × (Nat → Nat → Int64) × zz_F), call 3 x0 I J F = some r → zz_run (d+3) 228 0 [some (.ref 52), some (.int x0), none, none] [] (zz_S F I J) (some (.int r.1)) (zz_S r.2.2.2 r.2.1 r.2.2.1)) : ∀ n : Nat, (∀ (l1 : Int32) (l2 : Int32) (I : Nat → Nat → Int32) (J : Nat → Nat → Int64) (F : zz_F) (r : Int32 × (Nat → Nat → Int32) × (Nat → Nat → Int64) × zz_F), zl_X12_sum N call n 0 l1 l2 I J F = some r → zz_run (d+4) 225 0 [some (.ref 52), some (.int l1), none, none, none] [] (zz_S F I J) (some (.int r.1)) (zz_S (r.2.2.2) (r.2.1) (r.2.2.1))) ∧ (∀ (l1 : Int32) (l2 : Int32) (I : Nat → Nat → Int32) (J : Nat → Nat → Int64) (F : zz_F) (r : Int32 × (Nat → Nat → Int32) × (Nat → Nat → Int64) × zz_F), zl_X12_sum N call n 6 l1 l2 I J F = some r → zz_run (d+4) 225 6 [some (.ref 52), some (.int l1), some (.int l2), none, none] [] (zz_S F I J) (some (.int r.1)) (zz_S (r.2.2.2) (r.2.1) (r.2.2.1))) ∧ (∀ (l1 : Int32) (l2 : Int32) (I : Nat → Nat → Int32) (J : Nat → Nat → Int64) (F : zz_F) (r : Int32 × (Nat → Nat → Int32) × (Nat → Nat → Int64) × zz_F), zl_X12_sum N call n 31 l1 l2 I J F = some r → zz_run (d+4) 225 31 [some (.ref 52), some (.int l1), some (.int l2), none, none] [] (zz_S F I J) (some (.int r.1)) (zz_S (r.2.2.2) (r.2.1) (r.2.2.1))) ∧ (∀ (l1 : Int32) (l2 : Int32) (I : Nat → Nat → Int32) (J : Nat → Nat → Int64) (F : zz_F) (r : Int32 × (Nat → Nat → Int32) × (Nat → Nat → Int64) × zz_F), zl_X12_sum N call n 82 l1 l2 I J F = some r → zz_run (d+4) 225 82 [some (.ref 52), none, some (.int l2), none, none] [] (zz_S F I J) (some (.int r.1)) (zz_S (r.2.2.2) (r.2.1) (r.2.2.1))) := by
  intro n
  induction n with
  | zero => exact ⟨fun _ _ _ _ _ _ h => zz_no h, fun _ _ _ _ _ _ h => zz_no h, fun _ _ _ _ _ _ h => zz_no h, fun _ _ _ _ _ _ h => zz_no h⟩
  | succ n ih =>
    obtain ⟨ih0, ih6, ih31, ih82⟩ := ih
    refine ⟨?_, ?_, ?_, ?_⟩
    · intro l1 l2 I J F r hr
      rw [ze_X12_sum_0] at hr
      unfold zb_X12_sum_0 at hr
      refine zs_225_0 ?_
      refine And.intro (rfl) (And.intro (Nat.le_of_ble_eq_true rfl) (And.intro (Nat.le_of_ble_eq_true rfl) (And.intro (Nat.le_of_ble_eq_true rfl) ?_)))
      obtain ⟨r1, cr1, hr⟩ := Option.bind_eq_some_iff.mp hr
      refine Exists.intro _ (Exists.intro _ (And.intro (hc2 l1 I J F r1 cr1) ?_))
      exact zz_wk [true, true, true, false, false] rfl (ih6 _ _ _ _ _ _ hr)
    · intro l1 l2 I J F r hr
      rw [ze_X12_sum_6] at hr
      unfold zb_X12_sum_6 at hr
      refine zs_225_6 ?_
      refine And.intro (rfl) (And.intro (Nat.le_of_ble_eq_true rfl) (And.intro (Nat.le_of_ble_eq_true rfl) (And.intro (Nat.le_of_ble_eq_true rfl) ?_)))
      refine Exists.intro _ (Exists.intro _ (And.intro (zr_X12_fine F I J (d+3) ) ?_))
      refine And.intro (fun (h1 : (zv_X12_fine I) = 0) => ?_) (fun (h1 : ¬ ((zv_X12_fine I) = 0)) => ?_)
      · rw [if_pos h1] at hr
        exact zz_wk [true, false, true, false, false] rfl (ih82 _ _ _ _ _ _ hr)
      · rw [if_neg h1] at hr
        refine And.intro (rfl) (And.intro (Nat.le_of_ble_eq_true rfl) (And.intro (Nat.le_of_ble_eq_true rfl) (And.intro (Nat.le_of_ble_eq_true rfl) ?_)))
        obtain ⟨r2, cr2, hr⟩ := Option.bind_eq_some_iff.mp hr
        refine Exists.intro _ (Exists.intro _ (And.intro (zr_X12_here (d+3) N  I J F r2 cr2) ?_))
        refine And.intro (fun (h2 : r2.1 = 43) => ?_) (fun (h2 : ¬ (r2.1 = 43)) => ?_)
        · rw [if_pos h2] at hr
          exact zz_wk [true, true, true, false, false] rfl (ih31 _ _ _ _ _ _ hr)
        · rw [if_neg h2] at hr
          refine And.intro (rfl) (And.intro (Nat.le_of_ble_eq_true rfl) (And.intro (Nat.le_of_ble_eq_true rfl) (And.intro (Nat.le_of_ble_eq_true rfl) ?_)))
          obtain ⟨r3, cr3, hr⟩ := Option.bind_eq_some_iff.mp hr
          refine Exists.intro _ (Exists.intro _ (And.intro (zr_X12_here (d+3) N  r2.2.1 r2.2.2.1 r2.2.2.2 r3 cr3) ?_))
          refine And.intro (fun (h3 : ¬ r3.1 = 45) => ?_) (fun (h3 : ¬ (¬ r3.1 = 45)) => ?_)
          · rw [if_pos h3] at hr
            exact zz_wk [true, false, true, false, false] rfl (ih82 _ _ _ _ _ _ hr)
          · rw [if_neg h3] at hr
            exact zz_wk [true, true, true, false, false] rfl (ih31 _ _ _ _ _ _ hr)
    · intro l1 l2 I J F r hr
      rw [ze_X12_sum_31] at hr
      unfold zb_X12_sum_31 at hr
      refine zs_225_31 ?_
      refine And.intro (rfl) (And.intro (Nat.le_of_ble_eq_true rfl) (And.intro (Nat.le_of_ble_eq_true rfl) (And.intro (Nat.le_of_ble_eq_true rfl) ?_)))
      obtain ⟨r4, cr4, hr⟩ := Option.bind_eq_some_iff.mp hr
      refine Exists.intro _ (Exists.intro _ (And.intro (zr_X12_here (d+3) N  I J F r4 cr4) ?_))
      refine And.intro (fun (h4 : ¬ r4.1 = 43) => ?_) (fun (h4 : ¬ (¬ r4.1 = 43)) => ?_)
      · rw [if_pos h4] at hr
        show zz_run _ 225 44 [some (.ref 52), some (.int l1), some (.int l2), none, none] [] (zz_S r4.2.2.2 r4.2.1 r4.2.2.1) _ _
        refine zs_225_44 ?_
        show zz_run _ 225 45 [some (.ref 52), some (.int l1), some (.int l2), none, none] [.int 0] (zz_S r4.2.2.2 r4.2.1 r4.2.2.1) _ _
        refine zs_225_45 ?_
        refine And.intro (rfl) (And.intro (rfl) (And.intro (rfl) (And.intro (rfl) (And.intro (And.intro rfl rfl) (And.intro (rfl) ?_)))))
        refine And.intro (Nat.le_of_ble_eq_true rfl) (And.intro (Nat.le_of_ble_eq_true rfl) (And.intro (Nat.le_of_ble_eq_true rfl) ?_))
        obtain ⟨r5, cr5, hr⟩ := Option.bind_eq_some_iff.mp hr
        refine Exists.intro _ (Exists.intro _ (And.intro (hc2 l1 (zz_u r4.2.1 52 11 ((r4.2.1 52 11) + 1)) r4.2.2.1 r4.2.2.2 r5 cr5) ?_))
        refine And.intro (fun (h5 : (0 : Int32) = 0) => ?_) (fun (h5 : ¬ ((0 : Int32) = 0)) => ?_)
        · rw [if_pos h5] at hr
          show zz_run _ 225 74 [some (.ref 52), some (.int l1), some (.int l2), some (.int 0), some (.int r5.1)] [] (zz_S r5.2.2.2 r5.2.1 r5.2.2.1) _ _
          refine zs_225_74 ?_
          show zz_run _ 225 78 [some (.ref 52), some (.int l1), some (.int l2), some (.int 0), some (.int r5.1)] [.int (l2 - r5.1)] (zz_S r5.2.2.2 r5.2.1 r5.2.2.1) _ _
          refine zs_225_78 ?_
          exact zz_wk [true, true, true, false, false] rfl (ih6 _ _ _ _ _ _ hr)
        · rw [if_neg h5] at hr
          show zz_run _ 225 78 [some (.ref 52), some (.int l1), some (.int l2), some (.int 0), some (.int r5.1)] [.int (l2 + r5.1)] (zz_S r5.2.2.2 r5.2.1 r5.2.2.1) _ _
          refine zs_225_78 ?_
          exact zz_wk [true, true, true, false, false] rfl (ih6 _ _ _ _ _ _ hr)
      · rw [if_neg h4] at hr
        show zz_run _ 225 45 [some (.ref 52), some (.int l1), some (.int l2), none, none] [.int 1] (zz_S r4.2.2.2 r4.2.1 r4.2.2.1) _ _
        refine zs_225_45 ?_
        refine And.intro (rfl) (And.intro (rfl) (And.intro (rfl) (And.intro (rfl) (And.intro (And.intro rfl rfl) (And.intro (rfl) ?_)))))
        refine And.intro (Nat.le_of_ble_eq_true rfl) (And.intro (Nat.le_of_ble_eq_true rfl) (And.intro (Nat.le_of_ble_eq_true rfl) ?_))
        obtain ⟨r6, cr6, hr⟩ := Option.bind_eq_some_iff.mp hr
        refine Exists.intro _ (Exists.intro _ (And.intro (hc2 l1 (zz_u r4.2.1 52 11 ((r4.2.1 52 11) + 1)) r4.2.2.1 r4.2.2.2 r6 cr6) ?_))
        refine And.intro (fun (h6 : (1 : Int32) = 0) => ?_) (fun (h6 : ¬ ((1 : Int32) = 0)) => ?_)
        · rw [if_pos h6] at hr
          show zz_run _ 225 74 [some (.ref 52), some (.int l1), some (.int l2), some (.int 1), some (.int r6.1)] [] (zz_S r6.2.2.2 r6.2.1 r6.2.2.1) _ _
          refine zs_225_74 ?_
          show zz_run _ 225 78 [some (.ref 52), some (.int l1), some (.int l2), some (.int 1), some (.int r6.1)] [.int (l2 - r6.1)] (zz_S r6.2.2.2 r6.2.1 r6.2.2.1) _ _
          refine zs_225_78 ?_
          exact zz_wk [true, true, true, false, false] rfl (ih6 _ _ _ _ _ _ hr)
        · rw [if_neg h6] at hr
          show zz_run _ 225 78 [some (.ref 52), some (.int l1), some (.int l2), some (.int 1), some (.int r6.1)] [.int (l2 + r6.1)] (zz_S r6.2.2.2 r6.2.1 r6.2.2.1) _ _
          refine zs_225_78 ?_
          exact zz_wk [true, true, true, false, false] rfl (ih6 _ _ _ _ _ _ hr)
    · intro l1 l2 I J F r hr
      rw [ze_X12_sum_82] at hr
      unfold zb_X12_sum_82 at hr
      refine zs_225_82 ?_
      replace hr := Option.some.inj hr
      subst hr
      exact And.intro rfl (And.intro rfl rfl)
theorem zr_X12_sum (d N : Nat) (call : Nat → Int32 → (Nat → Nat → Int32) → (Nat → Nat → Int64) → zz_F → Option (Int32 × (Nat → Nat → Int32) × (Nat → Nat → Int64) × zz_F)) (hc0 : ∀ (x0 : Int32) (I : Nat → Nat → Int32) (J : Nat → Nat → Int64) (F : zz_F) (r : Int32 × (Nat → Nat → Int32) × (Nat → Nat → Int64) × zz_F), call 0 x0 I J F = some r → zz_run (d+3) 224 0 [some (.ref 52), some (.int x0), none] [] (zz_S F I J) (some (.int r.1)) (zz_S r.2.2.2 r.2.1 r.2.2.1)) (hc1 : ∀ (x0 : Int32) (I : Nat → Nat → Int32) (J : Nat → Nat → Int64) (F : zz_F) (r : Int32 × (Nat → Nat → Int32) × (Nat → Nat → Int64) × zz_F), call 1 x0 I J F = some r → zz_run (d+3) 225 0 [some (.ref 52), some (.int x0), none, none, none] [] (zz_S F I J) (some (.int r.1)) (zz_S r.2.2.2 r.2.1 r.2.2.1)) (hc2 : ∀ (x0 : Int32) (I : Nat → Nat → Int32) (J : Nat → Nat → Int64) (F : zz_F) (r : Int32 × (Nat → Nat → Int32) × (Nat → Nat → Int64) × zz_F), call 2 x0 I J F = some r → zz_run (d+3) 226 0 [some (.ref 52), some (.int x0), none, none, none] [] (zz_S F I J) (some (.int r.1)) (zz_S r.2.2.2 r.2.1 r.2.2.1)) (hc3 : ∀ (x0 : Int32) (I : Nat → Nat → Int32) (J : Nat → Nat → Int64) (F : zz_F) (r : Int32 × (Nat → Nat → Int32) × (Nat → Nat → Int64) × zz_F), call 3 x0 I J F = some r → zz_run (d+3) 228 0 [some (.ref 52), some (.int x0), none, none] [] (zz_S F I J) (some (.int r.1)) (zz_S r.2.2.2 r.2.1 r.2.2.1)) (l1 : Int32) (I : Nat → Nat → Int32) (J : Nat → Nat → Int64) (F : zz_F) (r : Int32 × (Nat → Nat → Int32) × (Nat → Nat → Int64) × zz_F) (h : zf_X12_sum N call l1 I J F = some r) : zz_run (d+4) 225 0 [some (.ref 52), some (.int l1), none, none, none] [] (zz_S F I J) (some (.int r.1)) (zz_S (r.2.2.2) (r.2.1) (r.2.2.1)) := (zq_X12_sum d N call hc0 hc1 hc2 hc3 N).1 l1 0 I J F r h
def zb_X12_product_0 (N : Nat) (call : Nat → Int32 → (Nat → Nat → Int32) → (Nat → Nat → Int64) → zz_F → Option (Int32 × (Nat → Nat → Int32) × (Nat → Nat → Int64) × zz_F)) (rec : Nat → Int32 → Int32 → (Nat → Nat → Int32) → (Nat → Nat → Int64) → zz_F → Option (Int32 × (Nat → Nat → Int32) × (Nat → Nat → Int64) × zz_F)) (l1 : Int32) (l2 : Int32) (I : Nat → Nat → Int32) (J : Nat → Nat → Int64) (F : zz_F) : Option (Int32 × (Nat → Nat → Int32) × (Nat → Nat → Int64) × zz_F) := (call 3 l1 I J F).bind fun r1 => rec 6 l1 r1.1 r1.2.1 r1.2.2.1 r1.2.2.2
def zb_X12_product_6 (N : Nat) (call : Nat → Int32 → (Nat → Nat → Int32) → (Nat → Nat → Int64) → zz_F → Option (Int32 × (Nat → Nat → Int32) × (Nat → Nat → Int64) × zz_F)) (rec : Nat → Int32 → Int32 → (Nat → Nat → Int32) → (Nat → Nat → Int64) → zz_F → Option (Int32 × (Nat → Nat → Int32) × (Nat → Nat → Int64) × zz_F)) (l1 : Int32) (l2 : Int32) (I : Nat → Nat → Int32) (J : Nat → Nat → Int64) (F : zz_F) : Option (Int32 × (Nat → Nat → Int32) × (Nat → Nat → Int64) × zz_F) := if (zv_X12_fine I) = 0 then (rec 91 0 l2 I J F) else ((zf_X12_here N  I J F).bind fun r2 => if r2.1 = 42 then (rec 31 l1 l2 r2.2.1 r2.2.2.1 r2.2.2.2) else ((zf_X12_here N  r2.2.1 r2.2.2.1 r2.2.2.2).bind fun r3 => if ¬ r3.1 = 47 then (rec 91 0 l2 r3.2.1 r3.2.2.1 r3.2.2.2) else (rec 31 l1 l2 r3.2.1 r3.2.2.1 r3.2.2.2)))
def zb_X12_product_31 (N : Nat) (call : Nat → Int32 → (Nat → Nat → Int32) → (Nat → Nat → Int64) → zz_F → Option (Int32 × (Nat → Nat → Int32) × (Nat → Nat → Int64) × zz_F)) (rec : Nat → Int32 → Int32 → (Nat → Nat → Int32) → (Nat → Nat → Int64) → zz_F → Option (Int32 × (Nat → Nat → Int32) × (Nat → Nat → Int64) × zz_F)) (l1 : Int32) (l2 : Int32) (I : Nat → Nat → Int32) (J : Nat → Nat → Int64) (F : zz_F) : Option (Int32 × (Nat → Nat → Int32) × (Nat → Nat → Int64) × zz_F) := (zf_X12_here N  I J F).bind fun r4 => if ¬ r4.1 = 42 then ((call 3 l1 (zz_u r4.2.1 52 11 ((r4.2.1 52 11) + 1)) r4.2.2.1 r4.2.2.2).bind fun r5 => if (0 : Int32) = 0 then (if ¬ r5.1 = 0 then (rec 6 l1 (l2 / r5.1) r5.2.1 r5.2.2.1 r5.2.2.2) else (rec 6 l1 0 r5.2.1 r5.2.2.1 r5.2.2.2)) else (rec 6 l1 (l2 * r5.1) r5.2.1 r5.2.2.1 r5.2.2.2)) else ((call 3 l1 (zz_u r4.2.1 52 11 ((r4.2.1 52 11) + 1)) r4.2.2.1 r4.2.2.2).bind fun r6 => if (1 : Int32) = 0 then (if ¬ r6.1 = 0 then (rec 6 l1 (l2 / r6.1) r6.2.1 r6.2.2.1 r6.2.2.2) else (rec 6 l1 0 r6.2.1 r6.2.2.1 r6.2.2.2)) else (rec 6 l1 (l2 * r6.1) r6.2.1 r6.2.2.1 r6.2.2.2))
def zb_X12_product_91 (N : Nat) (call : Nat → Int32 → (Nat → Nat → Int32) → (Nat → Nat → Int64) → zz_F → Option (Int32 × (Nat → Nat → Int32) × (Nat → Nat → Int64) × zz_F)) (rec : Nat → Int32 → Int32 → (Nat → Nat → Int32) → (Nat → Nat → Int64) → zz_F → Option (Int32 × (Nat → Nat → Int32) × (Nat → Nat → Int64) × zz_F)) (l1 : Int32) (l2 : Int32) (I : Nat → Nat → Int32) (J : Nat → Nat → Int64) (F : zz_F) : Option (Int32 × (Nat → Nat → Int32) × (Nat → Nat → Int64) × zz_F) := some (l2, I, J, F)
def zl_X12_product (N : Nat) (call : Nat → Int32 → (Nat → Nat → Int32) → (Nat → Nat → Int64) → zz_F → Option (Int32 × (Nat → Nat → Int32) × (Nat → Nat → Int64) × zz_F)) : Nat → Nat → Int32 → Int32 → (Nat → Nat → Int32) → (Nat → Nat → Int64) → zz_F → Option (Int32 × (Nat → Nat → Int32) × (Nat → Nat → Int64) × zz_F)
  | 0 => fun _ _ _ _ _ _ => none
  | n + 1 => fun pc l1 l2 I J F => if pc = 0 then zb_X12_product_0 N call (zl_X12_product N call n) l1 l2 I J F else (if pc = 6 then zb_X12_product_6 N call (zl_X12_product N call n) l1 l2 I J F else (if pc = 31 then zb_X12_product_31 N call (zl_X12_product N call n) l1 l2 I J F else (if pc = 91 then zb_X12_product_91 N call (zl_X12_product N call n) l1 l2 I J F else none)))
theorem ze_X12_product_0 (N : Nat) (call : Nat → Int32 → (Nat → Nat → Int32) → (Nat → Nat → Int64) → zz_F → Option (Int32 × (Nat → Nat → Int32) × (Nat → Nat → Int64) × zz_F)) (n : Nat) (l1 : Int32) (l2 : Int32) (I : Nat → Nat → Int32) (J : Nat → Nat → Int64) (F : zz_F) : zl_X12_product N call (n+1) 0 l1 l2 I J F = zb_X12_product_0 N call (zl_X12_product N call n) l1 l2 I J F := by
  show (if 0 = 0 then zb_X12_product_0 N call (zl_X12_product N call n) l1 l2 I J F else (if 0 = 6 then zb_X12_product_6 N call (zl_X12_product N call n) l1 l2 I J F else (if 0 = 31 then zb_X12_product_31 N call (zl_X12_product N call n) l1 l2 I J F else (if 0 = 91 then zb_X12_product_91 N call (zl_X12_product N call n) l1 l2 I J F else none)))) = _
  rw [if_pos rfl]
theorem ze_X12_product_6 (N : Nat) (call : Nat → Int32 → (Nat → Nat → Int32) → (Nat → Nat → Int64) → zz_F → Option (Int32 × (Nat → Nat → Int32) × (Nat → Nat → Int64) × zz_F)) (n : Nat) (l1 : Int32) (l2 : Int32) (I : Nat → Nat → Int32) (J : Nat → Nat → Int64) (F : zz_F) : zl_X12_product N call (n+1) 6 l1 l2 I J F = zb_X12_product_6 N call (zl_X12_product N call n) l1 l2 I J F := by
  show (if 6 = 0 then zb_X12_product_0 N call (zl_X12_product N call n) l1 l2 I J F else (if 6 = 6 then zb_X12_product_6 N call (zl_X12_product N call n) l1 l2 I J F else (if 6 = 31 then zb_X12_product_31 N call (zl_X12_product N call n) l1 l2 I J F else (if 6 = 91 then zb_X12_product_91 N call (zl_X12_product N call n) l1 l2 I J F else none)))) = _
  rw [if_neg (by decide), if_pos rfl]
theorem ze_X12_product_31 (N : Nat) (call : Nat → Int32 → (Nat → Nat → Int32) → (Nat → Nat → Int64) → zz_F → Option (Int32 × (Nat → Nat → Int32) × (Nat → Nat → Int64) × zz_F)) (n : Nat) (l1 : Int32) (l2 : Int32) (I : Nat → Nat → Int32) (J : Nat → Nat → Int64) (F : zz_F) : zl_X12_product N call (n+1) 31 l1 l2 I J F = zb_X12_product_31 N call (zl_X12_product N call n) l1 l2 I J F := by
  show (if 31 = 0 then zb_X12_product_0 N call (zl_X12_product N call n) l1 l2 I J F else (if 31 = 6 then zb_X12_product_6 N call (zl_X12_product N call n) l1 l2 I J F else (if 31 = 31 then zb_X12_product_31 N call (zl_X12_product N call n) l1 l2 I J F else (if 31 = 91 then zb_X12_product_91 N call (zl_X12_product N call n) l1 l2 I J F else none)))) = _
  rw [if_neg (by decide), if_neg (by decide), if_pos rfl]
theorem ze_X12_product_91 (N : Nat) (call : Nat → Int32 → (Nat → Nat → Int32) → (Nat → Nat → Int64) → zz_F → Option (Int32 × (Nat → Nat → Int32) × (Nat → Nat → Int64) × zz_F)) (n : Nat) (l1 : Int32) (l2 : Int32) (I : Nat → Nat → Int32) (J : Nat → Nat → Int64) (F : zz_F) : zl_X12_product N call (n+1) 91 l1 l2 I J F = zb_X12_product_91 N call (zl_X12_product N call n) l1 l2 I J F := by
  show (if 91 = 0 then zb_X12_product_0 N call (zl_X12_product N call n) l1 l2 I J F else (if 91 = 6 then zb_X12_product_6 N call (zl_X12_product N call n) l1 l2 I J F else (if 91 = 31 then zb_X12_product_31 N call (zl_X12_product N call n) l1 l2 I J F else (if 91 = 91 then zb_X12_product_91 N call (zl_X12_product N call n) l1 l2 I J F else none)))) = _
  rw [if_neg (by decide), if_neg (by decide), if_neg (by decide), if_pos rfl]
def zf_X12_product (N : Nat) (call : Nat → Int32 → (Nat → Nat → Int32) → (Nat → Nat → Int64) → zz_F → Option (Int32 × (Nat → Nat → Int32) × (Nat → Nat → Int64) × zz_F)) (l1 : Int32) (I : Nat → Nat → Int32) (J : Nat → Nat → Int64) (F : zz_F) : Option (Int32 × (Nat → Nat → Int32) × (Nat → Nat → Int64) × zz_F) := zl_X12_product N call N 0 l1 0 I J F
theorem zq_X12_product (d N : Nat) (call : Nat → Int32 → (Nat → Nat → Int32) → (Nat → Nat → Int64) → zz_F → Option (Int32 × (Nat → Nat → Int32) × (Nat → Nat → Int64) × zz_F)) (hc0 : ∀ (x0 : Int32) (I : Nat → Nat → Int32) (J : Nat → Nat → Int64) (F : zz_F) (r : Int32 × (Nat → Nat → Int32) × (Nat → Nat → Int64) × zz_F), call 0 x0 I J F = some r → zz_run (d+3) 224 0 [some (.ref 52), some (.int x0), none] [] (zz_S F I J) (some (.int r.1)) (zz_S r.2.2.2 r.2.1 r.2.2.1)) (hc1 : ∀ (x0 : Int32) (I : Nat → Nat → Int32) (J : Nat → Nat → Int64) (F : zz_F) (r : Int32 × (Nat → Nat → Int32) × (Nat → Nat → Int64) × zz_F), call 1 x0 I J F = some r → zz_run (d+3) 225 0 [some (.ref 52), some (.int x0), none, none, none] [] (zz_S F I J) (some (.int r.1)) (zz_S r.2.2.2 r.2.1 r.2.2.1)) (hc2 : ∀ (x0 : Int32) (I : Nat → Nat → Int32) (J : Nat → Nat → Int64) (F : zz_F) (r : Int32 × (Nat → Nat → Int32) × (Nat → Nat → Int64) × zz_F), call 2 x0 I J F = some r → zz_run (d+3) 226 0 [some (.ref 52), some (.int x0), none, none, none] [] (zz_S F I J) (some (.int r.1)) (zz_S r.2.2.2 r.2.1 r.2.2.1)) (hc3 : ∀ (x0 : Int32) (I : Nat → Nat → Int32) (J : Nat → Nat → Int64) (F : zz_F) (r : Int32 × (Nat → Nat → Int32) × (Nat → Nat → Int64) × zz_F), call 3 x0 I J F = some r → zz_run (d+3) 228 0 [some (.ref 52), some (.int x0), none, none] [] (zz_S F I J) (some (.int r.1)) (zz_S r.2.2.2 r.2.1 r.2.2.1)) : ∀ n : Nat, (∀ (l1 : Int32) (l2 : Int32) (I : Nat → Nat → Int32) (J : Nat → Nat → Int64) (F : zz_F) (r : Int32 × (Nat → Nat → Int32) × (Nat → Nat → Int64) × zz_F), zl_X12_product N call n 0 l1 l2 I J F = some r → zz_run (d+4) 226 0 [some (.ref 52), some (.int l1), none, none, none] [] (zz_S F I J) (some (.int r.1)) (zz_S (r.2.2.2) (r.2.1) (r.2.2.1))) ∧ (∀ (l1 : Int32) (l2 : Int32) (I : Nat → Nat → Int32) (J : Nat → Nat → Int64) (F : zz_F) (r : Int32 × (Nat → Nat → Int32) × (Nat → Nat → Int64) × zz_F), zl_X12_product N call n 6 l1 l2 I J F = some r → zz_run (d+4) 226 6 [some (.ref 52), some (.int l1), some (.int l2), none, none] [] (zz_S F I J) (some (.int r.1)) (zz_S (r.2.2.2) (r.2.1) (r.2.2.1))) ∧ (∀ (l1 : Int32) (l2 : Int32) (I : Nat → Nat → Int32) (J : Nat → Nat → Int64) (F : zz_F) (r : Int32 × (Nat → Nat → Int32) × (Nat → Nat → Int64) × zz_F), zl_X12_product N call n 31 l1 l2 I J F = some r → zz_run (d+4) 226 31 [some (.ref 52), some (.int l1), some (.int l2), none, none] [] (zz_S F I J) (some (.int r.1)) (zz_S (r.2.2.2) (r.2.1) (r.2.2.1))) ∧ (∀ (l1 : Int32) (l2 : Int32) (I : Nat → Nat → Int32) (J : Nat → Nat → Int64) (F : zz_F) (r : Int32 × (Nat → Nat → Int32) × (Nat → Nat → Int64) × zz_F), zl_X12_product N call n 91 l1 l2 I J F = some r → zz_run (d+4) 226 91 [some (.ref 52), none, some (.int l2), none, none] [] (zz_S F I J) (some (.int r.1)) (zz_S (r.2.2.2) (r.2.1) (r.2.2.1))) := by
  intro n
  induction n with
  | zero => exact ⟨fun _ _ _ _ _ _ h => zz_no h, fun _ _ _ _ _ _ h => zz_no h, fun _ _ _ _ _ _ h => zz_no h, fun _ _ _ _ _ _ h => zz_no h⟩
  | succ n ih =>
    obtain ⟨ih0, ih6, ih31, ih91⟩ := ih
    refine ⟨?_, ?_, ?_, ?_⟩
    · intro l1 l2 I J F r hr
      rw [ze_X12_product_0] at hr
      unfold zb_X12_product_0 at hr
      refine zs_226_0 ?_
      refine And.intro (rfl) (And.intro (Nat.le_of_ble_eq_true rfl) (And.intro (Nat.le_of_ble_eq_true rfl) (And.intro (Nat.le_of_ble_eq_true rfl) ?_)))
      obtain ⟨r1, cr1, hr⟩ := Option.bind_eq_some_iff.mp hr
      refine Exists.intro _ (Exists.intro _ (And.intro (hc3 l1 I J F r1 cr1) ?_))
      exact zz_wk [true, true, true, false, false] rfl (ih6 _ _ _ _ _ _ hr)
    · intro l1 l2 I J F r hr
      rw [ze_X12_product_6] at hr
      unfold zb_X12_product_6 at hr
      refine zs_226_6 ?_
      refine And.intro (rfl) (And.intro (Nat.le_of_ble_eq_true rfl) (And.intro (Nat.le_of_ble_eq_true rfl) (And.intro (Nat.le_of_ble_eq_true rfl) ?_)))
      refine Exists.intro _ (Exists.intro _ (And.intro (zr_X12_fine F I J (d+3) ) ?_))
      refine And.intro (fun (h1 : (zv_X12_fine I) = 0) => ?_) (fun (h1 : ¬ ((zv_X12_fine I) = 0)) => ?_)
      · rw [if_pos h1] at hr
        exact zz_wk [true, false, true, false, false] rfl (ih91 _ _ _ _ _ _ hr)
      · rw [if_neg h1] at hr
        refine And.intro (rfl) (And.intro (Nat.le_of_ble_eq_true rfl) (And.intro (Nat.le_of_ble_eq_true rfl) (And.intro (Nat.le_of_ble_eq_true rfl) ?_)))
        obtain ⟨r2, cr2, hr⟩ := Option.bind_eq_some_iff.mp hr
        refine Exists.intro _ (Exists.intro _ (And.intro (zr_X12_here (d+3) N  I J F r2 cr2) ?_))
        refine And.intro (fun (h2 : r2.1 = 42) => ?_) (fun (h2 : ¬ (r2.1 = 42)) => ?_)
        · rw [if_pos h2] at hr
          exact zz_wk [true, true, true, false, false] rfl (ih31 _ _ _ _ _ _ hr)
        · rw [if_neg h2] at hr
          refine And.intro (rfl) (And.intro (Nat.le_of_ble_eq_true rfl) (And.intro (Nat.le_of_ble_eq_true rfl) (And.intro (Nat.le_of_ble_eq_true rfl) ?_)))
          obtain ⟨r3, cr3, hr⟩ := Option.bind_eq_some_iff.mp hr
          refine Exists.intro _ (Exists.intro _ (And.intro (zr_X12_here (d+3) N  r2.2.1 r2.2.2.1 r2.2.2.2 r3 cr3) ?_))
          refine And.intro (fun (h3 : ¬ r3.1 = 47) => ?_) (fun (h3 : ¬ (¬ r3.1 = 47)) => ?_)
          · rw [if_pos h3] at hr
            exact zz_wk [true, false, true, false, false] rfl (ih91 _ _ _ _ _ _ hr)
          · rw [if_neg h3] at hr
            exact zz_wk [true, true, true, false, false] rfl (ih31 _ _ _ _ _ _ hr)
    · intro l1 l2 I J F r hr
      rw [ze_X12_product_31] at hr
      unfold zb_X12_product_31 at hr
      refine zs_226_31 ?_
      refine And.intro (rfl) (And.intro (Nat.le_of_ble_eq_true rfl) (And.intro (Nat.le_of_ble_eq_true rfl) (And.intro (Nat.le_of_ble_eq_true rfl) ?_)))
      obtain ⟨r4, cr4, hr⟩ := Option.bind_eq_some_iff.mp hr
      refine Exists.intro _ (Exists.intro _ (And.intro (zr_X12_here (d+3) N  I J F r4 cr4) ?_))
      refine And.intro (fun (h4 : ¬ r4.1 = 42) => ?_) (fun (h4 : ¬ (¬ r4.1 = 42)) => ?_)
      · rw [if_pos h4] at hr
        show zz_run _ 226 44 [some (.ref 52), some (.int l1), some (.int l2), none, none] [] (zz_S r4.2.2.2 r4.2.1 r4.2.2.1) _ _
        refine zs_226_44 ?_
        show zz_run _ 226 45 [some (.ref 52), some (.int l1), some (.int l2), none, none] [.int 0] (zz_S r4.2.2.2 r4.2.1 r4.2.2.1) _ _
        refine zs_226_45 ?_
        refine And.intro (rfl) (And.intro (rfl) (And.intro (rfl) (And.intro (rfl) (And.intro (And.intro rfl rfl) (And.intro (rfl) ?_)))))
        refine And.intro (Nat.le_of_ble_eq_true rfl) (And.intro (Nat.le_of_ble_eq_true rfl) (And.intro (Nat.le_of_ble_eq_true rfl) ?_))
        obtain ⟨r5, cr5, hr⟩ := Option.bind_eq_some_iff.mp hr
        refine Exists.intro _ (Exists.intro _ (And.intro (hc3 l1 (zz_u r4.2.1 52 11 ((r4.2.1 52 11) + 1)) r4.2.2.1 r4.2.2.2 r5 cr5) ?_))
        refine And.intro (fun (h5 : (0 : Int32) = 0) => ?_) (fun (h5 : ¬ ((0 : Int32) = 0)) => ?_)
        · rw [if_pos h5] at hr
          show zz_run _ 226 74 [some (.ref 52), some (.int l1), some (.int l2), some (.int 0), some (.int r5.1)] [] (zz_S r5.2.2.2 r5.2.1 r5.2.2.1) _ _
          refine zs_226_74 ?_
          refine And.intro (fun (h6 : ¬ r5.1 = 0) => ?_) (fun (h6 : ¬ (¬ r5.1 = 0)) => ?_)
          · rw [if_pos h6] at hr
            show zz_run _ 226 83 [some (.ref 52), some (.int l1), some (.int l2), some (.int 0), some (.int r5.1)] [] (zz_S r5.2.2.2 r5.2.1 r5.2.2.1) _ _
            refine zs_226_83 ?_
            refine And.intro (h6) ?_
            show zz_run _ 226 87 [some (.ref 52), some (.int l1), some (.int l2), some (.int 0), some (.int r5.1)] [.int (l2 / r5.1)] (zz_S r5.2.2.2 r5.2.1 r5.2.2.1) _ _
            refine zs_226_87 ?_
            exact zz_wk [true, true, true, false, false] rfl (ih6 _ _ _ _ _ _ hr)
          · rw [if_neg h6] at hr
            show zz_run _ 226 87 [some (.ref 52), some (.int l1), some (.int l2), some (.int 0), some (.int r5.1)] [.int 0] (zz_S r5.2.2.2 r5.2.1 r5.2.2.1) _ _
            refine zs_226_87 ?_
            exact zz_wk [true, true, true, false, false] rfl (ih6 _ _ _ _ _ _ hr)
        · rw [if_neg h5] at hr
          show zz_run _ 226 87 [some (.ref 52), some (.int l1), some (.int l2), some (.int 0), some (.int r5.1)] [.int (l2 * r5.1)] (zz_S r5.2.2.2 r5.2.1 r5.2.2.1) _ _
          refine zs_226_87 ?_
          exact zz_wk [true, true, true, false, false] rfl (ih6 _ _ _ _ _ _ hr)
      · rw [if_neg h4] at hr
        show zz_run _ 226 45 [some (.ref 52), some (.int l1), some (.int l2), none, none] [.int 1] (zz_S r4.2.2.2 r4.2.1 r4.2.2.1) _ _
        refine zs_226_45 ?_
        refine And.intro (rfl) (And.intro (rfl) (And.intro (rfl) (And.intro (rfl) (And.intro (And.intro rfl rfl) (And.intro (rfl) ?_)))))
        refine And.intro (Nat.le_of_ble_eq_true rfl) (And.intro (Nat.le_of_ble_eq_true rfl) (And.intro (Nat.le_of_ble_eq_true rfl) ?_))
        obtain ⟨r6, cr6, hr⟩ := Option.bind_eq_some_iff.mp hr
        refine Exists.intro _ (Exists.intro _ (And.intro (hc3 l1 (zz_u r4.2.1 52 11 ((r4.2.1 52 11) + 1)) r4.2.2.1 r4.2.2.2 r6 cr6) ?_))
        refine And.intro (fun (h7 : (1 : Int32) = 0) => ?_) (fun (h7 : ¬ ((1 : Int32) = 0)) => ?_)
        · rw [if_pos h7] at hr
          show zz_run _ 226 74 [some (.ref 52), some (.int l1), some (.int l2), some (.int 1), some (.int r6.1)] [] (zz_S r6.2.2.2 r6.2.1 r6.2.2.1) _ _
          refine zs_226_74 ?_
          refine And.intro (fun (h8 : ¬ r6.1 = 0) => ?_) (fun (h8 : ¬ (¬ r6.1 = 0)) => ?_)
          · rw [if_pos h8] at hr
            show zz_run _ 226 83 [some (.ref 52), some (.int l1), some (.int l2), some (.int 1), some (.int r6.1)] [] (zz_S r6.2.2.2 r6.2.1 r6.2.2.1) _ _
            refine zs_226_83 ?_
            refine And.intro (h8) ?_
            show zz_run _ 226 87 [some (.ref 52), some (.int l1), some (.int l2), some (.int 1), some (.int r6.1)] [.int (l2 / r6.1)] (zz_S r6.2.2.2 r6.2.1 r6.2.2.1) _ _
            refine zs_226_87 ?_
            exact zz_wk [true, true, true, false, false] rfl (ih6 _ _ _ _ _ _ hr)
          · rw [if_neg h8] at hr
            show zz_run _ 226 87 [some (.ref 52), some (.int l1), some (.int l2), some (.int 1), some (.int r6.1)] [.int 0] (zz_S r6.2.2.2 r6.2.1 r6.2.2.1) _ _
            refine zs_226_87 ?_
            exact zz_wk [true, true, true, false, false] rfl (ih6 _ _ _ _ _ _ hr)
        · rw [if_neg h7] at hr
          show zz_run _ 226 87 [some (.ref 52), some (.int l1), some (.int l2), some (.int 1), some (.int r6.1)] [.int (l2 * r6.1)] (zz_S r6.2.2.2 r6.2.1 r6.2.2.1) _ _
          refine zs_226_87 ?_
          exact zz_wk [true, true, true, false, false] rfl (ih6 _ _ _ _ _ _ hr)
    · intro l1 l2 I J F r hr
      rw [ze_X12_product_91] at hr
      unfold zb_X12_product_91 at hr
      refine zs_226_91 ?_
      replace hr := Option.some.inj hr
      subst hr
      exact And.intro rfl (And.intro rfl rfl)
theorem zr_X12_product (d N : Nat) (call : Nat → Int32 → (Nat → Nat → Int32) → (Nat → Nat → Int64) → zz_F → Option (Int32 × (Nat → Nat → Int32) × (Nat → Nat → Int64) × zz_F)) (hc0 : ∀ (x0 : Int32) (I : Nat → Nat → Int32) (J : Nat → Nat → Int64) (F : zz_F) (r : Int32 × (Nat → Nat → Int32) × (Nat → Nat → Int64) × zz_F), call 0 x0 I J F = some r → zz_run (d+3) 224 0 [some (.ref 52), some (.int x0), none] [] (zz_S F I J) (some (.int r.1)) (zz_S r.2.2.2 r.2.1 r.2.2.1)) (hc1 : ∀ (x0 : Int32) (I : Nat → Nat → Int32) (J : Nat → Nat → Int64) (F : zz_F) (r : Int32 × (Nat → Nat → Int32) × (Nat → Nat → Int64) × zz_F), call 1 x0 I J F = some r → zz_run (d+3) 225 0 [some (.ref 52), some (.int x0), none, none, none] [] (zz_S F I J) (some (.int r.1)) (zz_S r.2.2.2 r.2.1 r.2.2.1)) (hc2 : ∀ (x0 : Int32) (I : Nat → Nat → Int32) (J : Nat → Nat → Int64) (F : zz_F) (r : Int32 × (Nat → Nat → Int32) × (Nat → Nat → Int64) × zz_F), call 2 x0 I J F = some r → zz_run (d+3) 226 0 [some (.ref 52), some (.int x0), none, none, none] [] (zz_S F I J) (some (.int r.1)) (zz_S r.2.2.2 r.2.1 r.2.2.1)) (hc3 : ∀ (x0 : Int32) (I : Nat → Nat → Int32) (J : Nat → Nat → Int64) (F : zz_F) (r : Int32 × (Nat → Nat → Int32) × (Nat → Nat → Int64) × zz_F), call 3 x0 I J F = some r → zz_run (d+3) 228 0 [some (.ref 52), some (.int x0), none, none] [] (zz_S F I J) (some (.int r.1)) (zz_S r.2.2.2 r.2.1 r.2.2.1)) (l1 : Int32) (I : Nat → Nat → Int32) (J : Nat → Nat → Int64) (F : zz_F) (r : Int32 × (Nat → Nat → Int32) × (Nat → Nat → Int64) × zz_F) (h : zf_X12_product N call l1 I J F = some r) : zz_run (d+4) 226 0 [some (.ref 52), some (.int l1), none, none, none] [] (zz_S F I J) (some (.int r.1)) (zz_S (r.2.2.2) (r.2.1) (r.2.2.1)) := (zq_X12_product d N call hc0 hc1 hc2 hc3 N).1 l1 0 I J F r h
def zb_X12_thing_0 (N : Nat) (call : Nat → Int32 → (Nat → Nat → Int32) → (Nat → Nat → Int64) → zz_F → Option (Int32 × (Nat → Nat → Int32) × (Nat → Nat → Int64) × zz_F)) (rec : Nat → Int32 → Int32 → (Nat → Nat → Int32) → (Nat → Nat → Int64) → zz_F → Option (Int32 × (Nat → Nat → Int32) × (Nat → Nat → Int64) × zz_F)) (l1 : Int32) (l2 : Int32) (I : Nat → Nat → Int32) (J : Nat → Nat → Int64) (F : zz_F) : Option (Int32 × (Nat → Nat → Int32) × (Nat → Nat → Int64) × zz_F) := (zf_X12_passes N 45 I J F).bind fun r1 => if r1.1 = 0 then (if ¬ (zv_X12_fine r1.2.1) = 0 then ((zf_X12_here N  r1.2.1 r1.2.2.1 r1.2.2.2).bind fun r2 => if ¬ r2.1 = 40 then (rec 67 0 r2.1 r2.2.1 r2.2.2.1 r2.2.2.2) else (if 4 ≤ l1 then (rec 67 0 r2.1 r2.2.1 r2.2.2.1 r2.2.2.2) else ((call 0 (l1 + 1) (zz_u r2.2.1 52 11 ((r2.2.1 52 11) + 1)) r2.2.2.1 r2.2.2.2).bind fun r3 => (zf_X12_need N 41 r3.2.1 r3.2.2.1 r3.2.2.2).bind fun r4 => some (r3.1, r4.2.1, r4.2.2.1, r4.2.2.2)))) else (some (0, r1.2.1, r1.2.2.1, r1.2.2.2))) else ((call 3 l1 r1.2.1 r1.2.2.1 r1.2.2.2).bind fun r5 => some (-r5.1, r5.2.1, r5.2.2.1, r5.2.2.2))
def zb_X12_thing_67 (N : Nat) (call : Nat → Int32 → (Nat → Nat → Int32) → (Nat → Nat → Int64) → zz_F → Option (Int32 × (Nat → Nat → Int32) × (Nat → Nat → Int64) × zz_F)) (rec : Nat → Int32 → Int32 → (Nat → Nat → Int32) → (Nat → Nat → Int64) → zz_F → Option (Int32 × (Nat → Nat → Int32) × (Nat → Nat → Int64) × zz_F)) (l1 : Int32) (l2 : Int32) (I : Nat → Nat → Int32) (J : Nat → Nat → Int64) (F : zz_F) : Option (Int32 × (Nat → Nat → Int32) × (Nat → Nat → Int64) × zz_F) := if (zv_X12_in l2 48 57) = 0 then (if ¬ (zv_X12_letterOf l2) = ((-1)) then (if (I 52 17) = 0 then (some (0, zz_u I 52 11 ((I 52 11) + 1), J, F)) else (if ¬ ((zv_X12_letterOf l2) < 0 ∨ 6 ≤ (zv_X12_letterOf l2).toNatClampNeg) then (some (I 60 ((zv_X12_letterOf l2).toNatClampNeg), zz_u I 52 11 ((I 52 11) + 1), J, F)) else none)) else (some (0, zw_X12_fault I (I 52 11), J, F))) else ((zf_X12_number N 3 I J F).bind fun r7 => some (r7.1, r7.2.1, r7.2.2.1, r7.2.2.2))
def zl_X12_thing (N : Nat) (call : Nat → Int32 → (Nat → Nat → Int32) → (Nat → Nat → Int64) → zz_F → Option (Int32 × (Nat → Nat → Int32) × (Nat → Nat → Int64) × zz_F)) : Nat → Nat → Int32 → Int32 → (Nat → Nat → Int32) → (Nat → Nat → Int64) → zz_F → Option (Int32 × (Nat → Nat → Int32) × (Nat → Nat → Int64) × zz_F)
  | 0 => fun _ _ _ _ _ _ => none
  | n + 1 => fun pc l1 l2 I J F => if pc = 0 then zb_X12_thing_0 N call (zl_X12_thing N call n) l1 l2 I J F else (if pc = 67 then zb_X12_thing_67 N call (zl_X12_thing N call n) l1 l2 I J F else none)
theorem ze_X12_thing_0 (N : Nat) (call : Nat → Int32 → (Nat → Nat → Int32) → (Nat → Nat → Int64) → zz_F → Option (Int32 × (Nat → Nat → Int32) × (Nat → Nat → Int64) × zz_F)) (n : Nat) (l1 : Int32) (l2 : Int32) (I : Nat → Nat → Int32) (J : Nat → Nat → Int64) (F : zz_F) : zl_X12_thing N call (n+1) 0 l1 l2 I J F = zb_X12_thing_0 N call (zl_X12_thing N call n) l1 l2 I J F := by
  show (if 0 = 0 then zb_X12_thing_0 N call (zl_X12_thing N call n) l1 l2 I J F else (if 0 = 67 then zb_X12_thing_67 N call (zl_X12_thing N call n) l1 l2 I J F else none)) = _
  rw [if_pos rfl]
theorem ze_X12_thing_67 (N : Nat) (call : Nat → Int32 → (Nat → Nat → Int32) → (Nat → Nat → Int64) → zz_F → Option (Int32 × (Nat → Nat → Int32) × (Nat → Nat → Int64) × zz_F)) (n : Nat) (l1 : Int32) (l2 : Int32) (I : Nat → Nat → Int32) (J : Nat → Nat → Int64) (F : zz_F) : zl_X12_thing N call (n+1) 67 l1 l2 I J F = zb_X12_thing_67 N call (zl_X12_thing N call n) l1 l2 I J F := by
  show (if 67 = 0 then zb_X12_thing_0 N call (zl_X12_thing N call n) l1 l2 I J F else (if 67 = 67 then zb_X12_thing_67 N call (zl_X12_thing N call n) l1 l2 I J F else none)) = _
  rw [if_neg (by decide), if_pos rfl]
def zf_X12_thing (N : Nat) (call : Nat → Int32 → (Nat → Nat → Int32) → (Nat → Nat → Int64) → zz_F → Option (Int32 × (Nat → Nat → Int32) × (Nat → Nat → Int64) × zz_F)) (l1 : Int32) (I : Nat → Nat → Int32) (J : Nat → Nat → Int64) (F : zz_F) : Option (Int32 × (Nat → Nat → Int32) × (Nat → Nat → Int64) × zz_F) := zl_X12_thing N call N 0 l1 0 I J F
theorem zq_X12_thing (d N : Nat) (call : Nat → Int32 → (Nat → Nat → Int32) → (Nat → Nat → Int64) → zz_F → Option (Int32 × (Nat → Nat → Int32) × (Nat → Nat → Int64) × zz_F)) (hc0 : ∀ (x0 : Int32) (I : Nat → Nat → Int32) (J : Nat → Nat → Int64) (F : zz_F) (r : Int32 × (Nat → Nat → Int32) × (Nat → Nat → Int64) × zz_F), call 0 x0 I J F = some r → zz_run (d+3) 224 0 [some (.ref 52), some (.int x0), none] [] (zz_S F I J) (some (.int r.1)) (zz_S r.2.2.2 r.2.1 r.2.2.1)) (hc1 : ∀ (x0 : Int32) (I : Nat → Nat → Int32) (J : Nat → Nat → Int64) (F : zz_F) (r : Int32 × (Nat → Nat → Int32) × (Nat → Nat → Int64) × zz_F), call 1 x0 I J F = some r → zz_run (d+3) 225 0 [some (.ref 52), some (.int x0), none, none, none] [] (zz_S F I J) (some (.int r.1)) (zz_S r.2.2.2 r.2.1 r.2.2.1)) (hc2 : ∀ (x0 : Int32) (I : Nat → Nat → Int32) (J : Nat → Nat → Int64) (F : zz_F) (r : Int32 × (Nat → Nat → Int32) × (Nat → Nat → Int64) × zz_F), call 2 x0 I J F = some r → zz_run (d+3) 226 0 [some (.ref 52), some (.int x0), none, none, none] [] (zz_S F I J) (some (.int r.1)) (zz_S r.2.2.2 r.2.1 r.2.2.1)) (hc3 : ∀ (x0 : Int32) (I : Nat → Nat → Int32) (J : Nat → Nat → Int64) (F : zz_F) (r : Int32 × (Nat → Nat → Int32) × (Nat → Nat → Int64) × zz_F), call 3 x0 I J F = some r → zz_run (d+3) 228 0 [some (.ref 52), some (.int x0), none, none] [] (zz_S F I J) (some (.int r.1)) (zz_S r.2.2.2 r.2.1 r.2.2.1)) : ∀ n : Nat, (∀ (l1 : Int32) (l2 : Int32) (I : Nat → Nat → Int32) (J : Nat → Nat → Int64) (F : zz_F) (r : Int32 × (Nat → Nat → Int32) × (Nat → Nat → Int64) × zz_F), zl_X12_thing N call n 0 l1 l2 I J F = some r → zz_run (d+4) 228 0 [some (.ref 52), some (.int l1), none, none] [] (zz_S F I J) (some (.int r.1)) (zz_S (r.2.2.2) (r.2.1) (r.2.2.1))) ∧ (∀ (l1 : Int32) (l2 : Int32) (I : Nat → Nat → Int32) (J : Nat → Nat → Int64) (F : zz_F) (r : Int32 × (Nat → Nat → Int32) × (Nat → Nat → Int64) × zz_F), zl_X12_thing N call n 67 l1 l2 I J F = some r → zz_run (d+4) 228 67 [some (.ref 52), none, some (.int l2), none] [] (zz_S F I J) (some (.int r.1)) (zz_S (r.2.2.2) (r.2.1) (r.2.2.1))) := by
  intro n
  induction n with
  | zero => exact ⟨fun _ _ _ _ _ _ h => zz_no h, fun _ _ _ _ _ _ h => zz_no h⟩
  | succ n ih =>
    obtain ⟨ih0, ih67⟩ := ih
    refine ⟨?_, ?_⟩
    · intro l1 l2 I J F r hr
      rw [ze_X12_thing_0] at hr
      unfold zb_X12_thing_0 at hr
      refine zs_228_0 ?_
      refine And.intro (rfl) (And.intro (Nat.le_of_ble_eq_true rfl) (And.intro (Nat.le_of_ble_eq_true rfl) (And.intro (Nat.le_of_ble_eq_true rfl) ?_)))
      obtain ⟨r1, cr1, hr⟩ := Option.bind_eq_some_iff.mp hr
      refine Exists.intro _ (Exists.intro _ (And.intro (zr_X12_passes (d+2) N 45 I J F r1 cr1) ?_))
      refine And.intro (fun (h1 : r1.1 = 0) => ?_) (fun (h1 : ¬ (r1.1 = 0)) => ?_)
      · rw [if_pos h1] at hr
        show zz_run _ 228 16 [some (.ref 52), some (.int l1), none, none] [] (zz_S r1.2.2.2 r1.2.1 r1.2.2.1) _ _
        refine zs_228_16 ?_
        refine And.intro (rfl) (And.intro (Nat.le_of_ble_eq_true rfl) (And.intro (Nat.le_of_ble_eq_true rfl) (And.intro (Nat.le_of_ble_eq_true rfl) ?_)))
        refine Exists.intro _ (Exists.intro _ (And.intro (zr_X12_fine r1.2.2.2 r1.2.1 r1.2.2.1 (d+3) ) ?_))
        refine And.intro (fun (h2 : ¬ (zv_X12_fine r1.2.1) = 0) => ?_) (fun (h2 : ¬ (¬ (zv_X12_fine r1.2.1) = 0)) => ?_)
        · rw [if_pos h2] at hr
          show zz_run _ 228 25 [some (.ref 52), some (.int l1), none, none] [] (zz_S r1.2.2.2 r1.2.1 r1.2.2.1) _ _
          refine zs_228_25 ?_
          refine And.intro (rfl) (And.intro (Nat.le_of_ble_eq_true rfl) (And.intro (Nat.le_of_ble_eq_true rfl) (And.intro (Nat.le_of_ble_eq_true rfl) ?_)))
          obtain ⟨r2, cr2, hr⟩ := Option.bind_eq_some_iff.mp hr
          refine Exists.intro _ (Exists.intro _ (And.intro (zr_X12_here (d+3) N  r1.2.1 r1.2.2.1 r1.2.2.2 r2 cr2) ?_))
          refine And.intro (fun (h3 : ¬ r2.1 = 40) => ?_) (fun (h3 : ¬ (¬ r2.1 = 40)) => ?_)
          · rw [if_pos h3] at hr
            exact zz_wk [true, false, true, false] rfl (ih67 _ _ _ _ _ _ hr)
          · rw [if_neg h3] at hr
            refine And.intro (fun (h4 : 4 ≤ l1) => ?_) (fun (h4 : ¬ (4 ≤ l1)) => ?_)
            · rw [if_pos h4] at hr
              exact zz_wk [true, false, true, false] rfl (ih67 _ _ _ _ _ _ hr)
            · rw [if_neg h4] at hr
              refine And.intro (rfl) (And.intro (rfl) (And.intro (rfl) (And.intro (rfl) (And.intro (And.intro rfl rfl) (And.intro (rfl) ?_)))))
              refine And.intro (Nat.le_of_ble_eq_true rfl) (And.intro (Nat.le_of_ble_eq_true rfl) (And.intro (Nat.le_of_ble_eq_true rfl) ?_))
              obtain ⟨r3, cr3, hr⟩ := Option.bind_eq_some_iff.mp hr
              refine Exists.intro _ (Exists.intro _ (And.intro (hc0 (l1 + 1) (zz_u r2.2.1 52 11 ((r2.2.1 52 11) + 1)) r2.2.2.1 r2.2.2.2 r3 cr3) ?_))
              refine And.intro (rfl) (And.intro (Nat.le_of_ble_eq_true rfl) (And.intro (Nat.le_of_ble_eq_true rfl) (And.intro (Nat.le_of_ble_eq_true rfl) ?_)))
              obtain ⟨r4, cr4, hr⟩ := Option.bind_eq_some_iff.mp hr
              refine Exists.intro _ (Exists.intro _ (And.intro (zr_X12_need (d+1) N 41 r3.2.1 r3.2.2.1 r3.2.2.2 r4 cr4) ?_))
              replace hr := Option.some.inj hr
              subst hr
              exact And.intro rfl (And.intro rfl rfl)
        · rw [if_neg h2] at hr
          replace hr := Option.some.inj hr
          subst hr
          exact And.intro rfl (And.intro rfl rfl)
      · rw [if_neg h1] at hr
        refine And.intro (rfl) (And.intro (Nat.le_of_ble_eq_true rfl) (And.intro (Nat.le_of_ble_eq_true rfl) (And.intro (Nat.le_of_ble_eq_true rfl) ?_)))
        obtain ⟨r5, cr5, hr⟩ := Option.bind_eq_some_iff.mp hr
        refine Exists.intro _ (Exists.intro _ (And.intro (hc3 l1 r1.2.1 r1.2.2.1 r1.2.2.2 r5 cr5) ?_))
        replace hr := Option.some.inj hr
        subst hr
        exact And.intro rfl (And.intro rfl rfl)
    · intro l1 l2 I J F r hr
      rw [ze_X12_thing_67] at hr
      unfold zb_X12_thing_67 at hr
      refine zs_228_67 ?_
      refine And.intro (Nat.le_of_ble_eq_true rfl) (And.intro (Nat.le_of_ble_eq_true rfl) (And.intro (Nat.le_of_ble_eq_true rfl) ?_))
      refine Exists.intro _ (Exists.intro _ (And.intro (zr_X12_in F I J (d+3) l2 48 57) ?_))
      refine And.intro (fun (h5 : (zv_X12_in l2 48 57) = 0) => ?_) (fun (h5 : ¬ ((zv_X12_in l2 48 57) = 0)) => ?_)
      · rw [if_pos h5] at hr
        show zz_run _ 228 84 [some (.ref 52), none, some (.int l2), none] [] (zz_S F I J) _ _
        refine zs_228_84 ?_
        refine And.intro (Nat.le_of_ble_eq_true rfl) (And.intro (Nat.le_of_ble_eq_true rfl) (And.intro (Nat.le_of_ble_eq_true rfl) ?_))
        refine Exists.intro _ (Exists.intro _ (And.intro (zr_X12_letterOf F I J (d+3) l2) ?_))
        refine And.intro (fun (h6 : ¬ (zv_X12_letterOf l2) = ((-1))) => ?_) (fun (h6 : ¬ (¬ (zv_X12_letterOf l2) = ((-1)))) => ?_)
        · rw [if_pos h6] at hr
          show zz_run _ 228 102 [some (.ref 52), none, some (.int l2), none] [] (zz_S F I J) _ _
          refine zs_228_102 ?_
          refine And.intro (rfl) (And.intro (rfl) (And.intro (rfl) (And.intro (rfl) (And.intro (And.intro rfl rfl) (And.intro (rfl) ?_)))))
          refine And.intro (fun (h7 : (I 52 17) = 0) => ?_) (fun (h7 : ¬ ((I 52 17) = 0)) => ?_)
          · rw [if_pos h7] at hr
            show zz_run _ 228 131 [some (.ref 52), none, some (.int l2), none] [] (zz_S F (zz_u I 52 11 ((I 52 11) + 1)) J) _ _
            refine zs_228_131 ?_
            show zz_run _ 228 132 [some (.ref 52), none, some (.int l2), none] [.int 0] (zz_S F (zz_u I 52 11 ((I 52 11) + 1)) J) _ _
            refine zs_228_132 ?_
            replace hr := Option.some.inj hr
            subst hr
            exact And.intro rfl (And.intro rfl rfl)
          · rw [if_neg h7] at hr
            refine And.intro (rfl) (And.intro (Nat.le_of_ble_eq_true rfl) (And.intro (Nat.le_of_ble_eq_true rfl) (And.intro (Nat.le_of_ble_eq_true rfl) ?_)))
            refine Exists.intro _ (Exists.intro _ (And.intro (zr_X12_letterOf F (zz_u I 52 11 ((I 52 11) + 1)) J (d+3) l2) ?_))
            refine And.intro (Or.inl rfl) ?_
            have g6 : ¬ ((zv_X12_letterOf l2) < 0 ∨ 6 ≤ (zv_X12_letterOf l2).toNatClampNeg) := zz_g hr
            replace hr := zz_gt hr
            refine And.intro (g6) ?_
            show zz_run _ 228 132 [some (.ref 52), none, some (.int l2), none] [.int (I 60 ((zv_X12_letterOf l2).toNatClampNeg))] (zz_S F (zz_u I 52 11 ((I 52 11) + 1)) J) _ _
            refine zs_228_132 ?_
            replace hr := Option.some.inj hr
            subst hr
            exact And.intro rfl (And.intro rfl rfl)
        · rw [if_neg h6] at hr
          refine And.intro (rfl) (And.intro (rfl) (And.intro (Nat.le_of_ble_eq_true rfl) (And.intro (Nat.le_of_ble_eq_true rfl) (And.intro (Nat.le_of_ble_eq_true rfl) ?_))))
          refine Exists.intro _ (Exists.intro _ (And.intro (zr_X12_fault F I J (d+2) (I 52 11)) ?_))
          replace hr := Option.some.inj hr
          subst hr
          exact And.intro rfl (And.intro rfl rfl)
      · rw [if_neg h5] at hr
        refine And.intro (rfl) (And.intro (Nat.le_of_ble_eq_true rfl) (And.intro (Nat.le_of_ble_eq_true rfl) (And.intro (Nat.le_of_ble_eq_true rfl) ?_)))
        obtain ⟨r7, cr7, hr⟩ := Option.bind_eq_some_iff.mp hr
        refine Exists.intro _ (Exists.intro _ (And.intro (zr_X12_number d N 3 I J F r7 cr7) ?_))
        replace hr := Option.some.inj hr
        subst hr
        exact And.intro rfl (And.intro rfl rfl)
theorem zr_X12_thing (d N : Nat) (call : Nat → Int32 → (Nat → Nat → Int32) → (Nat → Nat → Int64) → zz_F → Option (Int32 × (Nat → Nat → Int32) × (Nat → Nat → Int64) × zz_F)) (hc0 : ∀ (x0 : Int32) (I : Nat → Nat → Int32) (J : Nat → Nat → Int64) (F : zz_F) (r : Int32 × (Nat → Nat → Int32) × (Nat → Nat → Int64) × zz_F), call 0 x0 I J F = some r → zz_run (d+3) 224 0 [some (.ref 52), some (.int x0), none] [] (zz_S F I J) (some (.int r.1)) (zz_S r.2.2.2 r.2.1 r.2.2.1)) (hc1 : ∀ (x0 : Int32) (I : Nat → Nat → Int32) (J : Nat → Nat → Int64) (F : zz_F) (r : Int32 × (Nat → Nat → Int32) × (Nat → Nat → Int64) × zz_F), call 1 x0 I J F = some r → zz_run (d+3) 225 0 [some (.ref 52), some (.int x0), none, none, none] [] (zz_S F I J) (some (.int r.1)) (zz_S r.2.2.2 r.2.1 r.2.2.1)) (hc2 : ∀ (x0 : Int32) (I : Nat → Nat → Int32) (J : Nat → Nat → Int64) (F : zz_F) (r : Int32 × (Nat → Nat → Int32) × (Nat → Nat → Int64) × zz_F), call 2 x0 I J F = some r → zz_run (d+3) 226 0 [some (.ref 52), some (.int x0), none, none, none] [] (zz_S F I J) (some (.int r.1)) (zz_S r.2.2.2 r.2.1 r.2.2.1)) (hc3 : ∀ (x0 : Int32) (I : Nat → Nat → Int32) (J : Nat → Nat → Int64) (F : zz_F) (r : Int32 × (Nat → Nat → Int32) × (Nat → Nat → Int64) × zz_F), call 3 x0 I J F = some r → zz_run (d+3) 228 0 [some (.ref 52), some (.int x0), none, none] [] (zz_S F I J) (some (.int r.1)) (zz_S r.2.2.2 r.2.1 r.2.2.1)) (l1 : Int32) (I : Nat → Nat → Int32) (J : Nat → Nat → Int64) (F : zz_F) (r : Int32 × (Nat → Nat → Int32) × (Nat → Nat → Int64) × zz_F) (h : zf_X12_thing N call l1 I J F = some r) : zz_run (d+4) 228 0 [some (.ref 52), some (.int l1), none, none] [] (zz_S F I J) (some (.int r.1)) (zz_S (r.2.2.2) (r.2.1) (r.2.2.1)) := (zq_X12_thing d N call hc0 hc1 hc2 hc3 N).1 l1 0 I J F r h
def zg_held (N : Nat) : Nat → Nat → Int32 → (Nat → Nat → Int32) → (Nat → Nat → Int64) → zz_F → Option (Int32 × (Nat → Nat → Int32) × (Nat → Nat → Int64) × zz_F)
  | 0 => fun _ _ _ _ _ => none
  | D + 1 => fun g x0 I J F => if g = 0 then zf_X12_held N (zg_held N D) x0 I J F else (if g = 1 then zf_X12_sum N (zg_held N D) x0 I J F else (if g = 2 then zf_X12_product N (zg_held N D) x0 I J F else (if g = 3 then zf_X12_thing N (zg_held N D) x0 I J F else (none))))
theorem zge_held_0 (N D : Nat) (x0 : Int32) (I : Nat → Nat → Int32) (J : Nat → Nat → Int64) (F : zz_F) : zg_held N (D+1) 0 x0 I J F = zf_X12_held N (zg_held N D) x0 I J F := by
  show (if 0 = 0 then zf_X12_held N (zg_held N D) x0 I J F else (if 0 = 1 then zf_X12_sum N (zg_held N D) x0 I J F else (if 0 = 2 then zf_X12_product N (zg_held N D) x0 I J F else (if 0 = 3 then zf_X12_thing N (zg_held N D) x0 I J F else (none))))) = _
  rw [if_pos rfl]
theorem zge_held_1 (N D : Nat) (x0 : Int32) (I : Nat → Nat → Int32) (J : Nat → Nat → Int64) (F : zz_F) : zg_held N (D+1) 1 x0 I J F = zf_X12_sum N (zg_held N D) x0 I J F := by
  show (if 1 = 0 then zf_X12_held N (zg_held N D) x0 I J F else (if 1 = 1 then zf_X12_sum N (zg_held N D) x0 I J F else (if 1 = 2 then zf_X12_product N (zg_held N D) x0 I J F else (if 1 = 3 then zf_X12_thing N (zg_held N D) x0 I J F else (none))))) = _
  rw [if_neg (by decide), if_pos rfl]
theorem zge_held_2 (N D : Nat) (x0 : Int32) (I : Nat → Nat → Int32) (J : Nat → Nat → Int64) (F : zz_F) : zg_held N (D+1) 2 x0 I J F = zf_X12_product N (zg_held N D) x0 I J F := by
  show (if 2 = 0 then zf_X12_held N (zg_held N D) x0 I J F else (if 2 = 1 then zf_X12_sum N (zg_held N D) x0 I J F else (if 2 = 2 then zf_X12_product N (zg_held N D) x0 I J F else (if 2 = 3 then zf_X12_thing N (zg_held N D) x0 I J F else (none))))) = _
  rw [if_neg (by decide), if_neg (by decide), if_pos rfl]
theorem zge_held_3 (N D : Nat) (x0 : Int32) (I : Nat → Nat → Int32) (J : Nat → Nat → Int64) (F : zz_F) : zg_held N (D+1) 3 x0 I J F = zf_X12_thing N (zg_held N D) x0 I J F := by
  show (if 3 = 0 then zf_X12_held N (zg_held N D) x0 I J F else (if 3 = 1 then zf_X12_sum N (zg_held N D) x0 I J F else (if 3 = 2 then zf_X12_product N (zg_held N D) x0 I J F else (if 3 = 3 then zf_X12_thing N (zg_held N D) x0 I J F else (none))))) = _
  rw [if_neg (by decide), if_neg (by decide), if_neg (by decide), if_pos rfl]
theorem zgq_held (N : Nat) : ∀ (D d : Nat), (∀ (x0 : Int32) (I : Nat → Nat → Int32) (J : Nat → Nat → Int64) (F : zz_F) (r : Int32 × (Nat → Nat → Int32) × (Nat → Nat → Int64) × zz_F), (zg_held N D) 0 x0 I J F = some r → zz_run (d + D + 3) 224 0 [some (.ref 52), some (.int x0), none] [] (zz_S F I J) (some (.int r.1)) (zz_S r.2.2.2 r.2.1 r.2.2.1)) ∧ (∀ (x0 : Int32) (I : Nat → Nat → Int32) (J : Nat → Nat → Int64) (F : zz_F) (r : Int32 × (Nat → Nat → Int32) × (Nat → Nat → Int64) × zz_F), (zg_held N D) 1 x0 I J F = some r → zz_run (d + D + 3) 225 0 [some (.ref 52), some (.int x0), none, none, none] [] (zz_S F I J) (some (.int r.1)) (zz_S r.2.2.2 r.2.1 r.2.2.1)) ∧ (∀ (x0 : Int32) (I : Nat → Nat → Int32) (J : Nat → Nat → Int64) (F : zz_F) (r : Int32 × (Nat → Nat → Int32) × (Nat → Nat → Int64) × zz_F), (zg_held N D) 2 x0 I J F = some r → zz_run (d + D + 3) 226 0 [some (.ref 52), some (.int x0), none, none, none] [] (zz_S F I J) (some (.int r.1)) (zz_S r.2.2.2 r.2.1 r.2.2.1)) ∧ (∀ (x0 : Int32) (I : Nat → Nat → Int32) (J : Nat → Nat → Int64) (F : zz_F) (r : Int32 × (Nat → Nat → Int32) × (Nat → Nat → Int64) × zz_F), (zg_held N D) 3 x0 I J F = some r → zz_run (d + D + 3) 228 0 [some (.ref 52), some (.int x0), none, none] [] (zz_S F I J) (some (.int r.1)) (zz_S r.2.2.2 r.2.1 r.2.2.1)) := by
  intro D
  induction D with
  | zero => intro d; exact ⟨fun _ _ _ _ _ h => zz_no h, fun _ _ _ _ _ h => zz_no h, fun _ _ _ _ _ h => zz_no h, fun _ _ _ _ _ h => zz_no h⟩
  | succ D ih =>
    intro d
    obtain ⟨i0, i1, i2, i3⟩ := ih d
    refine ⟨?_, ?_, ?_, ?_⟩
    · intro x0 I J F r h
      rw [zge_held_0] at h
      exact zr_X12_held (d + D) N _ i0 i1 i2 i3 x0 I J F r h
    · intro x0 I J F r h
      rw [zge_held_1] at h
      exact zr_X12_sum (d + D) N _ i0 i1 i2 i3 x0 I J F r h
    · intro x0 I J F r h
      rw [zge_held_2] at h
      exact zr_X12_product (d + D) N _ i0 i1 i2 i3 x0 I J F r h
    · intro x0 I J F r h
      rw [zge_held_3] at h
      exact zr_X12_thing (d + D) N _ i0 i1 i2 i3 x0 I J F r h
def zf_X12_held_ (N : Nat) (x0 : Int32) (I : Nat → Nat → Int32) (J : Nat → Nat → Int64) (F : zz_F) : Option (Int32 × (Nat → Nat → Int32) × (Nat → Nat → Int64) × zz_F) := zg_held N 64 0 x0 I J F
theorem zr_X12_held_ (d N : Nat) (x0 : Int32) (I : Nat → Nat → Int32) (J : Nat → Nat → Int64) (F : zz_F) (r : Int32 × (Nat → Nat → Int32) × (Nat → Nat → Int64) × zz_F) (h : zf_X12_held_ N x0 I J F = some r) : zz_run (d+67) 224 0 [some (.ref 52), some (.int x0), none] [] (zz_S F I J) (some (.int r.1)) (zz_S r.2.2.2 r.2.1 r.2.2.1) := (zgq_held N 64 d).1 x0 I J F r h
def zb_X3_takes_0 (N : Nat) (rec : Nat → Int32 → (Nat → Nat → Int32) → (Nat → Nat → Int64) → Option (Int32 × (Nat → Nat → Int32) × (Nat → Nat → Int64))) (l1 : Int32) (I : Nat → Nat → Int32) (J : Nat → Nat → Int64) : Option (Int32 × (Nat → Nat → Int32) × (Nat → Nat → Int64)) := if (I 36 1) = 0 then ((zf_X3_takesPlay N l1 I J).bind fun r1 => if r1.1 = 0 ∨ r1.1 = 1 then (some (r1.1, r1.2.1, J)) else none) else (if (I 36 1) = 1 then (if (zv_X3_takesNumber I l1 49 57 1 48) = 0 ∨ (zv_X3_takesNumber I l1 49 57 1 48) = 1 then (some (zv_X3_takesNumber I l1 49 57 1 48, zw_X3_takesNumber I l1 49 57 1 48, J)) else none) else (if (I 36 1) = 2 then (if ¬ (zv_X3_takesPerson I l1) = 0 then (rec 103 0 (zw_X3_takesPerson I l1) J) else (if ¬ (zv_X3_takesProp (zw_X3_takesPerson I l1) l1) = 0 then (rec 103 0 (zw_X3_takesProp (zw_X3_takesPerson I l1) l1) J) else (if (zv_X3_takesMark (zw_X3_takesProp (zw_X3_takesPerson I l1) l1) l1) = 0 then (some (0, zw_X3_takesMark (zw_X3_takesProp (zw_X3_takesPerson I l1) l1) l1, J)) else (rec 103 0 (zw_X3_takesMark (zw_X3_takesProp (zw_X3_takesPerson I l1) l1) l1) J)))) else (if (I 36 1) = 3 then (if ¬ (zv_X3_takesProp I l1) = 0 then (rec 125 0 (zw_X3_takesProp I l1) J) else (if (zv_X3_takesMark (zw_X3_takesProp I l1) l1) = 0 then (some (0, zw_X3_takesMark (zw_X3_takesProp I l1) l1, J)) else (rec 125 0 (zw_X3_takesMark (zw_X3_takesProp I l1) l1) J))) else (if (I 36 1) = 4 then (if (zv_X3_takesNumber I l1 97 104 4 97) = 0 ∨ (zv_X3_takesNumber I l1 97 104 4 97) = 1 then (some (zv_X3_takesNumber I l1 97 104 4 97, zw_X3_takesNumber I l1 97 104 4 97, J)) else none) else (if (I 36 1) = 5 then (rec 169 l1 I J) else (if (I 36 1) = 6 then (if (zv_X3_takesNumber I l1 97 104 5 97) = 0 ∨ (zv_X3_takesNumber I l1 97 104 5 97) = 1 then (some (zv_X3_takesNumber I l1 97 104 5 97, zw_X3_takesNumber I l1 97 104 5 97, J)) else none) else (if (I 36 1) = 7 then (rec 169 l1 I J) else (if (I 36 1) = 8 then (if (zv_X3_takesCheer I l1) = 0 ∨ (zv_X3_takesCheer I l1) = 1 then (some (zv_X3_takesCheer I l1, zw_X3_takesCheer I l1, J)) else none) else (if (I 36 1) = 9 then (if (zv_X3_takesNextLine I l1) = 0 ∨ (zv_X3_takesNextLine I l1) = 1 then (some (zv_X3_takesNextLine I l1, zw_X3_takesNextLine I l1, J)) else none) else (rec 169 l1 I J))))))))))
def zb_X3_takes_103 (N : Nat) (rec : Nat → Int32 → (Nat → Nat → Int32) → (Nat → Nat → Int64) → Option (Int32 × (Nat → Nat → Int32) × (Nat → Nat → Int64))) (l1 : Int32) (I : Nat → Nat → Int32) (J : Nat → Nat → Int64) : Option (Int32 × (Nat → Nat → Int32) × (Nat → Nat → Int64)) := some (1, I, J)
def zb_X3_takes_125 (N : Nat) (rec : Nat → Int32 → (Nat → Nat → Int32) → (Nat → Nat → Int64) → Option (Int32 × (Nat → Nat → Int32) × (Nat → Nat → Int64))) (l1 : Int32) (I : Nat → Nat → Int32) (J : Nat → Nat → Int64) : Option (Int32 × (Nat → Nat → Int32) × (Nat → Nat → Int64)) := some (1, I, J)
def zb_X3_takes_169 (N : Nat) (rec : Nat → Int32 → (Nat → Nat → Int32) → (Nat → Nat → Int64) → Option (Int32 × (Nat → Nat → Int32) × (Nat → Nat → Int64))) (l1 : Int32) (I : Nat → Nat → Int32) (J : Nat → Nat → Int64) : Option (Int32 × (Nat → Nat → Int32) × (Nat → Nat → Int64)) := if (zv_X3_takesMark I l1) = 0 ∨ (zv_X3_takesMark I l1) = 1 then (some (zv_X3_takesMark I l1, zw_X3_takesMark I l1, J)) else none
def zl_X3_takes (N : Nat) : Nat → Nat → Int32 → (Nat → Nat → Int32) → (Nat → Nat → Int64) → Option (Int32 × (Nat → Nat → Int32) × (Nat → Nat → Int64))
  | 0 => fun _ _ _ _ => none
  | n + 1 => fun pc l1 I J => if pc = 0 then zb_X3_takes_0 N (zl_X3_takes N n) l1 I J else (if pc = 103 then zb_X3_takes_103 N (zl_X3_takes N n) l1 I J else (if pc = 125 then zb_X3_takes_125 N (zl_X3_takes N n) l1 I J else (if pc = 169 then zb_X3_takes_169 N (zl_X3_takes N n) l1 I J else none)))
theorem ze_X3_takes_0 (N : Nat) (n : Nat) (l1 : Int32) (I : Nat → Nat → Int32) (J : Nat → Nat → Int64) : zl_X3_takes N (n+1) 0 l1 I J = zb_X3_takes_0 N (zl_X3_takes N n) l1 I J := by
  show (if 0 = 0 then zb_X3_takes_0 N (zl_X3_takes N n) l1 I J else (if 0 = 103 then zb_X3_takes_103 N (zl_X3_takes N n) l1 I J else (if 0 = 125 then zb_X3_takes_125 N (zl_X3_takes N n) l1 I J else (if 0 = 169 then zb_X3_takes_169 N (zl_X3_takes N n) l1 I J else none)))) = _
  rw [if_pos rfl]
theorem ze_X3_takes_103 (N : Nat) (n : Nat) (l1 : Int32) (I : Nat → Nat → Int32) (J : Nat → Nat → Int64) : zl_X3_takes N (n+1) 103 l1 I J = zb_X3_takes_103 N (zl_X3_takes N n) l1 I J := by
  show (if 103 = 0 then zb_X3_takes_0 N (zl_X3_takes N n) l1 I J else (if 103 = 103 then zb_X3_takes_103 N (zl_X3_takes N n) l1 I J else (if 103 = 125 then zb_X3_takes_125 N (zl_X3_takes N n) l1 I J else (if 103 = 169 then zb_X3_takes_169 N (zl_X3_takes N n) l1 I J else none)))) = _
  rw [if_neg (by decide), if_pos rfl]
theorem ze_X3_takes_125 (N : Nat) (n : Nat) (l1 : Int32) (I : Nat → Nat → Int32) (J : Nat → Nat → Int64) : zl_X3_takes N (n+1) 125 l1 I J = zb_X3_takes_125 N (zl_X3_takes N n) l1 I J := by
  show (if 125 = 0 then zb_X3_takes_0 N (zl_X3_takes N n) l1 I J else (if 125 = 103 then zb_X3_takes_103 N (zl_X3_takes N n) l1 I J else (if 125 = 125 then zb_X3_takes_125 N (zl_X3_takes N n) l1 I J else (if 125 = 169 then zb_X3_takes_169 N (zl_X3_takes N n) l1 I J else none)))) = _
  rw [if_neg (by decide), if_neg (by decide), if_pos rfl]
theorem ze_X3_takes_169 (N : Nat) (n : Nat) (l1 : Int32) (I : Nat → Nat → Int32) (J : Nat → Nat → Int64) : zl_X3_takes N (n+1) 169 l1 I J = zb_X3_takes_169 N (zl_X3_takes N n) l1 I J := by
  show (if 169 = 0 then zb_X3_takes_0 N (zl_X3_takes N n) l1 I J else (if 169 = 103 then zb_X3_takes_103 N (zl_X3_takes N n) l1 I J else (if 169 = 125 then zb_X3_takes_125 N (zl_X3_takes N n) l1 I J else (if 169 = 169 then zb_X3_takes_169 N (zl_X3_takes N n) l1 I J else none)))) = _
  rw [if_neg (by decide), if_neg (by decide), if_neg (by decide), if_pos rfl]
def zf_X3_takes (N : Nat) (l1 : Int32) (I : Nat → Nat → Int32) (J : Nat → Nat → Int64) : Option (Int32 × (Nat → Nat → Int32) × (Nat → Nat → Int64)) := zl_X3_takes N N 0 l1 I J
theorem zq_X3_takes (F : zz_F) (d N : Nat) : ∀ n : Nat, (∀ (l1 : Int32) (I : Nat → Nat → Int32) (J : Nat → Nat → Int64) (r : Int32 × (Nat → Nat → Int32) × (Nat → Nat → Int64)), zl_X3_takes N n 0 l1 I J = some r → zz_run (d+3) 36 0 [some (.ref 36), some (.int l1)] [] (zz_S F I J) (some (.int r.1)) (zz_S F (r.2.1) J)) ∧ (∀ (l1 : Int32) (I : Nat → Nat → Int32) (J : Nat → Nat → Int64) (r : Int32 × (Nat → Nat → Int32) × (Nat → Nat → Int64)), zl_X3_takes N n 103 l1 I J = some r → zz_run (d+3) 36 103 [some (.ref 36), none] [] (zz_S F I J) (some (.int r.1)) (zz_S F (r.2.1) J)) ∧ (∀ (l1 : Int32) (I : Nat → Nat → Int32) (J : Nat → Nat → Int64) (r : Int32 × (Nat → Nat → Int32) × (Nat → Nat → Int64)), zl_X3_takes N n 125 l1 I J = some r → zz_run (d+3) 36 125 [some (.ref 36), none] [] (zz_S F I J) (some (.int r.1)) (zz_S F (r.2.1) J)) ∧ (∀ (l1 : Int32) (I : Nat → Nat → Int32) (J : Nat → Nat → Int64) (r : Int32 × (Nat → Nat → Int32) × (Nat → Nat → Int64)), zl_X3_takes N n 169 l1 I J = some r → zz_run (d+3) 36 169 [some (.ref 36), some (.int l1)] [] (zz_S F I J) (some (.int r.1)) (zz_S F (r.2.1) J)) := by
  intro n
  induction n with
  | zero => exact ⟨fun _ _ _ _ h => zz_no h, fun _ _ _ _ h => zz_no h, fun _ _ _ _ h => zz_no h, fun _ _ _ _ h => zz_no h⟩
  | succ n ih =>
    obtain ⟨ih0, ih103, ih125, ih169⟩ := ih
    refine ⟨?_, ?_, ?_, ?_⟩
    · intro l1 I J r hr
      rw [ze_X3_takes_0] at hr
      unfold zb_X3_takes_0 at hr
      refine zs_36_0 ?_
      refine And.intro (rfl) ?_
      by_cases s1_0 : (I 36 1) = 0
      · rw [if_pos s1_0] at hr
        refine And.intro (fun (q : (I 36 1).toInt < 0 ∨ 9 < (I 36 1).toInt) => absurd q (by rw [s1_0]; decide)) (fun _ => Exists.intro 56 (And.intro (show (#[56, 62, 75, 105, 127, 165, 140, 165, 153, 159] : Array Int)[((I 36 1).toInt - 0).toNat]? = some 56 from by rw [s1_0]; rfl) ?_))
        show zz_run _ 36 60 [some (.ref 36), some (.int l1)] [] (zz_S F I J) _ _
        refine zs_36_60 ?_
        refine And.intro (rfl) (And.intro (Nat.le_of_ble_eq_true rfl) (And.intro (Nat.le_of_ble_eq_true rfl) (And.intro (Nat.le_of_ble_eq_true rfl) ?_)))
        obtain ⟨r1, cr1, hr⟩ := Option.bind_eq_some_iff.mp hr
        refine Exists.intro _ (Exists.intro _ (And.intro (zr_X3_takesPlay F I J (d+1) N l1 r1 cr1) ?_))
        have g2 : r1.1 = 0 ∨ r1.1 = 1 := zz_g hr
        replace hr := zz_gt hr
        replace hr := Option.some.inj hr
        subst hr
        exact And.intro rfl (And.intro rfl (zz_nb g2))
      · rw [if_neg s1_0] at hr
        by_cases s1_1 : (I 36 1) = 1
        · rw [if_pos s1_1] at hr
          refine And.intro (fun (q : (I 36 1).toInt < 0 ∨ 9 < (I 36 1).toInt) => absurd q (by rw [s1_1]; decide)) (fun _ => Exists.intro 62 (And.intro (show (#[56, 62, 75, 105, 127, 165, 140, 165, 153, 159] : Array Int)[((I 36 1).toInt - 0).toNat]? = some 62 from by rw [s1_1]; rfl) ?_))
          show zz_run _ 36 66 [some (.ref 36), some (.int l1)] [] (zz_S F I J) _ _
          refine zs_36_66 ?_
          refine And.intro (rfl) (And.intro (Nat.le_of_ble_eq_true rfl) (And.intro (Nat.le_of_ble_eq_true rfl) (And.intro (Nat.le_of_ble_eq_true rfl) ?_)))
          refine Exists.intro _ (Exists.intro _ (And.intro (zr_X3_takesNumber F I J (d+1) l1 49 57 1 48) ?_))
          have g3 : (zv_X3_takesNumber I l1 49 57 1 48) = 0 ∨ (zv_X3_takesNumber I l1 49 57 1 48) = 1 := zz_g hr
          replace hr := zz_gt hr
          replace hr := Option.some.inj hr
          subst hr
          exact And.intro rfl (And.intro rfl (zz_nb g3))
        · rw [if_neg s1_1] at hr
          by_cases s1_2 : (I 36 1) = 2
          · rw [if_pos s1_2] at hr
            refine And.intro (fun (q : (I 36 1).toInt < 0 ∨ 9 < (I 36 1).toInt) => absurd q (by rw [s1_2]; decide)) (fun _ => Exists.intro 75 (And.intro (show (#[56, 62, 75, 105, 127, 165, 140, 165, 153, 159] : Array Int)[((I 36 1).toInt - 0).toNat]? = some 75 from by rw [s1_2]; rfl) ?_))
            show zz_run _ 36 79 [some (.ref 36), some (.int l1)] [] (zz_S F I J) _ _
            refine zs_36_79 ?_
            refine And.intro (rfl) (And.intro (Nat.le_of_ble_eq_true rfl) (And.intro (Nat.le_of_ble_eq_true rfl) (And.intro (Nat.le_of_ble_eq_true rfl) ?_)))
            refine Exists.intro _ (Exists.intro _ (And.intro (zr_X3_takesPerson F I J d l1) ?_))
            refine And.intro (fun (h2 : ¬ (zv_X3_takesPerson I l1) = 0) => ?_) (fun (h2 : ¬ (¬ (zv_X3_takesPerson I l1) = 0)) => ?_)
            · rw [if_pos h2] at hr
              exact zz_wk [true, false] rfl (ih103 _ _ _ _ hr)
            · rw [if_neg h2] at hr
              refine And.intro (rfl) (And.intro (Nat.le_of_ble_eq_true rfl) (And.intro (Nat.le_of_ble_eq_true rfl) (And.intro (Nat.le_of_ble_eq_true rfl) ?_)))
              refine Exists.intro _ (Exists.intro _ (And.intro (zr_X3_takesProp F (zw_X3_takesPerson I l1) J d l1) ?_))
              refine And.intro (fun (h3 : ¬ (zv_X3_takesProp (zw_X3_takesPerson I l1) l1) = 0) => ?_) (fun (h3 : ¬ (¬ (zv_X3_takesProp (zw_X3_takesPerson I l1) l1) = 0)) => ?_)
              · rw [if_pos h3] at hr
                exact zz_wk [true, false] rfl (ih103 _ _ _ _ hr)
              · rw [if_neg h3] at hr
                refine And.intro (rfl) (And.intro (Nat.le_of_ble_eq_true rfl) (And.intro (Nat.le_of_ble_eq_true rfl) (And.intro (Nat.le_of_ble_eq_true rfl) ?_)))
                refine Exists.intro _ (Exists.intro _ (And.intro (zr_X3_takesMark F (zw_X3_takesProp (zw_X3_takesPerson I l1) l1) J (d+2) l1) ?_))
                refine And.intro (fun (h4 : (zv_X3_takesMark (zw_X3_takesProp (zw_X3_takesPerson I l1) l1) l1) = 0) => ?_) (fun (h4 : ¬ ((zv_X3_takesMark (zw_X3_takesProp (zw_X3_takesPerson I l1) l1) l1) = 0)) => ?_)
                · rw [if_pos h4] at hr
                  show zz_run _ 36 107 [some (.ref 36), some (.int l1)] [] (zz_S F (zw_X3_takesMark (zw_X3_takesProp (zw_X3_takesPerson I l1) l1) l1) J) _ _
                  refine zs_36_107 ?_
                  show zz_run _ 36 108 [some (.ref 36), some (.int l1)] [.int 0] (zz_S F (zw_X3_takesMark (zw_X3_takesProp (zw_X3_takesPerson I l1) l1) l1) J) _ _
                  refine zs_36_108 ?_
                  replace hr := Option.some.inj hr
                  subst hr
                  exact And.intro rfl (And.intro rfl rfl)
                · rw [if_neg h4] at hr
                  exact zz_wk [true, false] rfl (ih103 _ _ _ _ hr)
          · rw [if_neg s1_2] at hr
            by_cases s1_3 : (I 36 1) = 3
            · rw [if_pos s1_3] at hr
              refine And.intro (fun (q : (I 36 1).toInt < 0 ∨ 9 < (I 36 1).toInt) => absurd q (by rw [s1_3]; decide)) (fun _ => Exists.intro 105 (And.intro (show (#[56, 62, 75, 105, 127, 165, 140, 165, 153, 159] : Array Int)[((I 36 1).toInt - 0).toNat]? = some 105 from by rw [s1_3]; rfl) ?_))
              show zz_run _ 36 109 [some (.ref 36), some (.int l1)] [] (zz_S F I J) _ _
              refine zs_36_109 ?_
              refine And.intro (rfl) (And.intro (Nat.le_of_ble_eq_true rfl) (And.intro (Nat.le_of_ble_eq_true rfl) (And.intro (Nat.le_of_ble_eq_true rfl) ?_)))
              refine Exists.intro _ (Exists.intro _ (And.intro (zr_X3_takesProp F I J d l1) ?_))
              refine And.intro (fun (h5 : ¬ (zv_X3_takesProp I l1) = 0) => ?_) (fun (h5 : ¬ (¬ (zv_X3_takesProp I l1) = 0)) => ?_)
              · rw [if_pos h5] at hr
                exact zz_wk [true, false] rfl (ih125 _ _ _ _ hr)
              · rw [if_neg h5] at hr
                refine And.intro (rfl) (And.intro (Nat.le_of_ble_eq_true rfl) (And.intro (Nat.le_of_ble_eq_true rfl) (And.intro (Nat.le_of_ble_eq_true rfl) ?_)))
                refine Exists.intro _ (Exists.intro _ (And.intro (zr_X3_takesMark F (zw_X3_takesProp I l1) J (d+2) l1) ?_))
                refine And.intro (fun (h6 : (zv_X3_takesMark (zw_X3_takesProp I l1) l1) = 0) => ?_) (fun (h6 : ¬ ((zv_X3_takesMark (zw_X3_takesProp I l1) l1) = 0)) => ?_)
                · rw [if_pos h6] at hr
                  show zz_run _ 36 129 [some (.ref 36), some (.int l1)] [] (zz_S F (zw_X3_takesMark (zw_X3_takesProp I l1) l1) J) _ _
                  refine zs_36_129 ?_
                  show zz_run _ 36 130 [some (.ref 36), some (.int l1)] [.int 0] (zz_S F (zw_X3_takesMark (zw_X3_takesProp I l1) l1) J) _ _
                  refine zs_36_130 ?_
                  replace hr := Option.some.inj hr
                  subst hr
                  exact And.intro rfl (And.intro rfl rfl)
                · rw [if_neg h6] at hr
                  exact zz_wk [true, false] rfl (ih125 _ _ _ _ hr)
            · rw [if_neg s1_3] at hr
              by_cases s1_4 : (I 36 1) = 4
              · rw [if_pos s1_4] at hr
                refine And.intro (fun (q : (I 36 1).toInt < 0 ∨ 9 < (I 36 1).toInt) => absurd q (by rw [s1_4]; decide)) (fun _ => Exists.intro 127 (And.intro (show (#[56, 62, 75, 105, 127, 165, 140, 165, 153, 159] : Array Int)[((I 36 1).toInt - 0).toNat]? = some 127 from by rw [s1_4]; rfl) ?_))
                show zz_run _ 36 131 [some (.ref 36), some (.int l1)] [] (zz_S F I J) _ _
                refine zs_36_131 ?_
                refine And.intro (rfl) (And.intro (Nat.le_of_ble_eq_true rfl) (And.intro (Nat.le_of_ble_eq_true rfl) (And.intro (Nat.le_of_ble_eq_true rfl) ?_)))
                refine Exists.intro _ (Exists.intro _ (And.intro (zr_X3_takesNumber F I J (d+1) l1 97 104 4 97) ?_))
                have g4 : (zv_X3_takesNumber I l1 97 104 4 97) = 0 ∨ (zv_X3_takesNumber I l1 97 104 4 97) = 1 := zz_g hr
                replace hr := zz_gt hr
                replace hr := Option.some.inj hr
                subst hr
                exact And.intro rfl (And.intro rfl (zz_nb g4))
              · rw [if_neg s1_4] at hr
                by_cases s1_5 : (I 36 1) = 5
                · rw [if_pos s1_5] at hr
                  refine And.intro (fun (q : (I 36 1).toInt < 0 ∨ 9 < (I 36 1).toInt) => absurd q (by rw [s1_5]; decide)) (fun _ => Exists.intro 165 (And.intro (show (#[56, 62, 75, 105, 127, 165, 140, 165, 153, 159] : Array Int)[((I 36 1).toInt - 0).toNat]? = some 165 from by rw [s1_5]; rfl) ?_))
                  exact zz_wk [true, true] rfl (ih169 _ _ _ _ hr)
                · rw [if_neg s1_5] at hr
                  by_cases s1_6 : (I 36 1) = 6
                  · rw [if_pos s1_6] at hr
                    refine And.intro (fun (q : (I 36 1).toInt < 0 ∨ 9 < (I 36 1).toInt) => absurd q (by rw [s1_6]; decide)) (fun _ => Exists.intro 140 (And.intro (show (#[56, 62, 75, 105, 127, 165, 140, 165, 153, 159] : Array Int)[((I 36 1).toInt - 0).toNat]? = some 140 from by rw [s1_6]; rfl) ?_))
                    show zz_run _ 36 144 [some (.ref 36), some (.int l1)] [] (zz_S F I J) _ _
                    refine zs_36_144 ?_
                    refine And.intro (rfl) (And.intro (Nat.le_of_ble_eq_true rfl) (And.intro (Nat.le_of_ble_eq_true rfl) (And.intro (Nat.le_of_ble_eq_true rfl) ?_)))
                    refine Exists.intro _ (Exists.intro _ (And.intro (zr_X3_takesNumber F I J (d+1) l1 97 104 5 97) ?_))
                    have g5 : (zv_X3_takesNumber I l1 97 104 5 97) = 0 ∨ (zv_X3_takesNumber I l1 97 104 5 97) = 1 := zz_g hr
                    replace hr := zz_gt hr
                    replace hr := Option.some.inj hr
                    subst hr
                    exact And.intro rfl (And.intro rfl (zz_nb g5))
                  · rw [if_neg s1_6] at hr
                    by_cases s1_7 : (I 36 1) = 7
                    · rw [if_pos s1_7] at hr
                      refine And.intro (fun (q : (I 36 1).toInt < 0 ∨ 9 < (I 36 1).toInt) => absurd q (by rw [s1_7]; decide)) (fun _ => Exists.intro 165 (And.intro (show (#[56, 62, 75, 105, 127, 165, 140, 165, 153, 159] : Array Int)[((I 36 1).toInt - 0).toNat]? = some 165 from by rw [s1_7]; rfl) ?_))
                      exact zz_wk [true, true] rfl (ih169 _ _ _ _ hr)
                    · rw [if_neg s1_7] at hr
                      by_cases s1_8 : (I 36 1) = 8
                      · rw [if_pos s1_8] at hr
                        refine And.intro (fun (q : (I 36 1).toInt < 0 ∨ 9 < (I 36 1).toInt) => absurd q (by rw [s1_8]; decide)) (fun _ => Exists.intro 153 (And.intro (show (#[56, 62, 75, 105, 127, 165, 140, 165, 153, 159] : Array Int)[((I 36 1).toInt - 0).toNat]? = some 153 from by rw [s1_8]; rfl) ?_))
                        show zz_run _ 36 157 [some (.ref 36), some (.int l1)] [] (zz_S F I J) _ _
                        refine zs_36_157 ?_
                        refine And.intro (rfl) (And.intro (Nat.le_of_ble_eq_true rfl) (And.intro (Nat.le_of_ble_eq_true rfl) (And.intro (Nat.le_of_ble_eq_true rfl) ?_)))
                        refine Exists.intro _ (Exists.intro _ (And.intro (zr_X3_takesCheer F I J d l1) ?_))
                        have g6 : (zv_X3_takesCheer I l1) = 0 ∨ (zv_X3_takesCheer I l1) = 1 := zz_g hr
                        replace hr := zz_gt hr
                        replace hr := Option.some.inj hr
                        subst hr
                        exact And.intro rfl (And.intro rfl (zz_nb g6))
                      · rw [if_neg s1_8] at hr
                        by_cases s1_9 : (I 36 1) = 9
                        · rw [if_pos s1_9] at hr
                          refine And.intro (fun (q : (I 36 1).toInt < 0 ∨ 9 < (I 36 1).toInt) => absurd q (by rw [s1_9]; decide)) (fun _ => Exists.intro 159 (And.intro (show (#[56, 62, 75, 105, 127, 165, 140, 165, 153, 159] : Array Int)[((I 36 1).toInt - 0).toNat]? = some 159 from by rw [s1_9]; rfl) ?_))
                          show zz_run _ 36 163 [some (.ref 36), some (.int l1)] [] (zz_S F I J) _ _
                          refine zs_36_163 ?_
                          refine And.intro (rfl) (And.intro (Nat.le_of_ble_eq_true rfl) (And.intro (Nat.le_of_ble_eq_true rfl) (And.intro (Nat.le_of_ble_eq_true rfl) ?_)))
                          refine Exists.intro _ (Exists.intro _ (And.intro (zr_X3_takesNextLine F I J (d+2) l1) ?_))
                          have g7 : (zv_X3_takesNextLine I l1) = 0 ∨ (zv_X3_takesNextLine I l1) = 1 := zz_g hr
                          replace hr := zz_gt hr
                          replace hr := Option.some.inj hr
                          subst hr
                          exact And.intro rfl (And.intro rfl (zz_nb g7))
                        · rw [if_neg s1_9] at hr
                          have es1_0 : ¬ (I 36 1).toInt = 0 := fun q => s1_0 (zz_toI q rfl)
                          have es1_1 : ¬ (I 36 1).toInt = 1 := fun q => s1_1 (zz_toI q rfl)
                          have es1_2 : ¬ (I 36 1).toInt = 2 := fun q => s1_2 (zz_toI q rfl)
                          have es1_3 : ¬ (I 36 1).toInt = 3 := fun q => s1_3 (zz_toI q rfl)
                          have es1_4 : ¬ (I 36 1).toInt = 4 := fun q => s1_4 (zz_toI q rfl)
                          have es1_5 : ¬ (I 36 1).toInt = 5 := fun q => s1_5 (zz_toI q rfl)
                          have es1_6 : ¬ (I 36 1).toInt = 6 := fun q => s1_6 (zz_toI q rfl)
                          have es1_7 : ¬ (I 36 1).toInt = 7 := fun q => s1_7 (zz_toI q rfl)
                          have es1_8 : ¬ (I 36 1).toInt = 8 := fun q => s1_8 (zz_toI q rfl)
                          have es1_9 : ¬ (I 36 1).toInt = 9 := fun q => s1_9 (zz_toI q rfl)
                          refine And.intro (fun _ => ?_) (fun (q : ¬ ((I 36 1).toInt < 0 ∨ 9 < (I 36 1).toInt)) => absurd (by omega) q)
                          exact zz_wk [true, true] rfl (ih169 _ _ _ _ hr)
    · intro l1 I J r hr
      rw [ze_X3_takes_103] at hr
      unfold zb_X3_takes_103 at hr
      refine zs_36_103 ?_
      show zz_run _ 36 108 [some (.ref 36), none] [.int 1] (zz_S F I J) _ _
      refine zs_36_108 ?_
      replace hr := Option.some.inj hr
      subst hr
      exact And.intro rfl (And.intro rfl rfl)
    · intro l1 I J r hr
      rw [ze_X3_takes_125] at hr
      unfold zb_X3_takes_125 at hr
      refine zs_36_125 ?_
      show zz_run _ 36 130 [some (.ref 36), none] [.int 1] (zz_S F I J) _ _
      refine zs_36_130 ?_
      replace hr := Option.some.inj hr
      subst hr
      exact And.intro rfl (And.intro rfl rfl)
    · intro l1 I J r hr
      rw [ze_X3_takes_169] at hr
      unfold zb_X3_takes_169 at hr
      refine zs_36_169 ?_
      refine And.intro (rfl) (And.intro (Nat.le_of_ble_eq_true rfl) (And.intro (Nat.le_of_ble_eq_true rfl) (And.intro (Nat.le_of_ble_eq_true rfl) ?_)))
      refine Exists.intro _ (Exists.intro _ (And.intro (zr_X3_takesMark F I J (d+2) l1) ?_))
      have g8 : (zv_X3_takesMark I l1) = 0 ∨ (zv_X3_takesMark I l1) = 1 := zz_g hr
      replace hr := zz_gt hr
      replace hr := Option.some.inj hr
      subst hr
      exact And.intro rfl (And.intro rfl (zz_nb g8))
theorem zr_X3_takes (F : zz_F) (I : Nat → Nat → Int32) (J : Nat → Nat → Int64) (d N : Nat) (l1 : Int32) (r : Int32 × (Nat → Nat → Int32) × (Nat → Nat → Int64)) (h : zf_X3_takes N l1 I J = some r) : zz_run (d+3) 36 0 [some (.ref 36), some (.int l1)] [] (zz_S F I J) (some (.int r.1)) (zz_S F (r.2.1) J) := (zq_X3_takes F d N N).1 l1 I J r h
def zb_X4_findTurnsBy_0 (N : Nat) (rec : Nat → Int32 → Int32 → Int32 → Int32 → (Nat → Nat → Int32) → (Nat → Nat → Int64) → Option (Int32 × (Nat → Nat → Int32) × (Nat → Nat → Int64))) (l1 : Int32) (l2 : Int32) (l3 : Int32) (l4 : Int32) (I : Nat → Nat → Int32) (J : Nat → Nat → Int64) : Option (Int32 × (Nat → Nat → Int32) × (Nat → Nat → Int64)) := rec 20 0 0 (I 41 6) 0 (zz_u (zz_u (zz_u I 41 8 l1) 41 9 l2) 41 5 0) J
def zb_X4_findTurnsBy_20 (N : Nat) (rec : Nat → Int32 → Int32 → Int32 → Int32 → (Nat → Nat → Int32) → (Nat → Nat → Int64) → Option (Int32 × (Nat → Nat → Int32) × (Nat → Nat → Int64))) (l1 : Int32) (l2 : Int32) (l3 : Int32) (l4 : Int32) (I : Nat → Nat → Int32) (J : Nat → Nat → Int64) : Option (Int32 × (Nat → Nat → Int32) × (Nat → Nat → Int64)) := if l3 < 0 then (if 0 ≤ (zv_X4_valueAt I 0 0 0) then ((zf_X4_followLatest N  I J).bind fun r1 => some (1, r1.2.1, J)) else (some (0, I, J))) else (rec 30 0 0 l3 (I 41 7) I J)
def zb_X4_findTurnsBy_30 (N : Nat) (rec : Nat → Int32 → Int32 → Int32 → Int32 → (Nat → Nat → Int32) → (Nat → Nat → Int64) → Option (Int32 × (Nat → Nat → Int32) × (Nat → Nat → Int64))) (l1 : Int32) (l2 : Int32) (l3 : Int32) (l4 : Int32) (I : Nat → Nat → Int32) (J : Nat → Nat → Int64) : Option (Int32 × (Nat → Nat → Int32) × (Nat → Nat → Int64)) := if l4 < 0 then (rec 20 0 0 (l3 + (-1)) 0 I J) else ((some (zw_X4_put (zw_X4_put I l3 l4 0 (zv_X4_latestAt I l3 l4 0)) l3 l4 1 (zv_X4_latestAt (zw_X4_put I l3 l4 0 (zv_X4_latestAt I l3 l4 0)) l3 l4 1))).bind fun i2 => rec 30 0 0 l3 (l4 + (-1)) i2 J)
def zl_X4_findTurnsBy (N : Nat) : Nat → Nat → Int32 → Int32 → Int32 → Int32 → (Nat → Nat → Int32) → (Nat → Nat → Int64) → Option (Int32 × (Nat → Nat → Int32) × (Nat → Nat → Int64))
  | 0 => fun _ _ _ _ _ _ _ => none
  | n + 1 => fun pc l1 l2 l3 l4 I J => if pc = 0 then zb_X4_findTurnsBy_0 N (zl_X4_findTurnsBy N n) l1 l2 l3 l4 I J else (if pc = 20 then zb_X4_findTurnsBy_20 N (zl_X4_findTurnsBy N n) l1 l2 l3 l4 I J else (if pc = 30 then zb_X4_findTurnsBy_30 N (zl_X4_findTurnsBy N n) l1 l2 l3 l4 I J else none))
theorem ze_X4_findTurnsBy_0 (N : Nat) (n : Nat) (l1 : Int32) (l2 : Int32) (l3 : Int32) (l4 : Int32) (I : Nat → Nat → Int32) (J : Nat → Nat → Int64) : zl_X4_findTurnsBy N (n+1) 0 l1 l2 l3 l4 I J = zb_X4_findTurnsBy_0 N (zl_X4_findTurnsBy N n) l1 l2 l3 l4 I J := by
  show (if 0 = 0 then zb_X4_findTurnsBy_0 N (zl_X4_findTurnsBy N n) l1 l2 l3 l4 I J else (if 0 = 20 then zb_X4_findTurnsBy_20 N (zl_X4_findTurnsBy N n) l1 l2 l3 l4 I J else (if 0 = 30 then zb_X4_findTurnsBy_30 N (zl_X4_findTurnsBy N n) l1 l2 l3 l4 I J else none))) = _
  rw [if_pos rfl]
theorem ze_X4_findTurnsBy_20 (N : Nat) (n : Nat) (l1 : Int32) (l2 : Int32) (l3 : Int32) (l4 : Int32) (I : Nat → Nat → Int32) (J : Nat → Nat → Int64) : zl_X4_findTurnsBy N (n+1) 20 l1 l2 l3 l4 I J = zb_X4_findTurnsBy_20 N (zl_X4_findTurnsBy N n) l1 l2 l3 l4 I J := by
  show (if 20 = 0 then zb_X4_findTurnsBy_0 N (zl_X4_findTurnsBy N n) l1 l2 l3 l4 I J else (if 20 = 20 then zb_X4_findTurnsBy_20 N (zl_X4_findTurnsBy N n) l1 l2 l3 l4 I J else (if 20 = 30 then zb_X4_findTurnsBy_30 N (zl_X4_findTurnsBy N n) l1 l2 l3 l4 I J else none))) = _
  rw [if_neg (by decide), if_pos rfl]
theorem ze_X4_findTurnsBy_30 (N : Nat) (n : Nat) (l1 : Int32) (l2 : Int32) (l3 : Int32) (l4 : Int32) (I : Nat → Nat → Int32) (J : Nat → Nat → Int64) : zl_X4_findTurnsBy N (n+1) 30 l1 l2 l3 l4 I J = zb_X4_findTurnsBy_30 N (zl_X4_findTurnsBy N n) l1 l2 l3 l4 I J := by
  show (if 30 = 0 then zb_X4_findTurnsBy_0 N (zl_X4_findTurnsBy N n) l1 l2 l3 l4 I J else (if 30 = 20 then zb_X4_findTurnsBy_20 N (zl_X4_findTurnsBy N n) l1 l2 l3 l4 I J else (if 30 = 30 then zb_X4_findTurnsBy_30 N (zl_X4_findTurnsBy N n) l1 l2 l3 l4 I J else none))) = _
  rw [if_neg (by decide), if_neg (by decide), if_pos rfl]
def zf_X4_findTurnsBy (N : Nat) (l1 : Int32) (l2 : Int32) (I : Nat → Nat → Int32) (J : Nat → Nat → Int64) : Option (Int32 × (Nat → Nat → Int32) × (Nat → Nat → Int64)) := zl_X4_findTurnsBy N N 0 l1 l2 0 0 I J
theorem zq_X4_findTurnsBy (F : zz_F) (d N : Nat) : ∀ n : Nat, (∀ (l1 : Int32) (l2 : Int32) (l3 : Int32) (l4 : Int32) (I : Nat → Nat → Int32) (J : Nat → Nat → Int64) (r : Int32 × (Nat → Nat → Int32) × (Nat → Nat → Int64)), zl_X4_findTurnsBy N n 0 l1 l2 l3 l4 I J = some r → zz_run (d+3) 65 0 [some (.ref 41), some (.int l1), some (.int l2), none, none] [] (zz_S F I J) (some (.int r.1)) (zz_S F (r.2.1) J)) ∧ (∀ (l1 : Int32) (l2 : Int32) (l3 : Int32) (l4 : Int32) (I : Nat → Nat → Int32) (J : Nat → Nat → Int64) (r : Int32 × (Nat → Nat → Int32) × (Nat → Nat → Int64)), zl_X4_findTurnsBy N n 20 l1 l2 l3 l4 I J = some r → zz_run (d+3) 65 20 [some (.ref 41), none, none, some (.int l3), none] [] (zz_S F I J) (some (.int r.1)) (zz_S F (r.2.1) J)) ∧ (∀ (l1 : Int32) (l2 : Int32) (l3 : Int32) (l4 : Int32) (I : Nat → Nat → Int32) (J : Nat → Nat → Int64) (r : Int32 × (Nat → Nat → Int32) × (Nat → Nat → Int64)), zl_X4_findTurnsBy N n 30 l1 l2 l3 l4 I J = some r → zz_run (d+3) 65 30 [some (.ref 41), none, none, some (.int l3), some (.int l4)] [] (zz_S F I J) (some (.int r.1)) (zz_S F (r.2.1) J)) := by
  intro n
  induction n with
  | zero => exact ⟨fun _ _ _ _ _ _ _ h => zz_no h, fun _ _ _ _ _ _ _ h => zz_no h, fun _ _ _ _ _ _ _ h => zz_no h⟩
  | succ n ih =>
    obtain ⟨ih0, ih20, ih30⟩ := ih
    refine ⟨?_, ?_, ?_⟩
    · intro l1 l2 l3 l4 I J r hr
      rw [ze_X4_findTurnsBy_0] at hr
      unfold zb_X4_findTurnsBy_0 at hr
      refine zs_65_0 ?_
      refine And.intro (rfl) (And.intro (rfl) (And.intro (And.intro rfl rfl) (And.intro (rfl) (And.intro (rfl) (And.intro (And.intro rfl rfl) ?_)))))
      refine And.intro (rfl) (And.intro (rfl) (And.intro (And.intro rfl rfl) (And.intro (rfl) ?_)))
      exact zz_wk [true, false, false, true, false] rfl (ih20 _ _ _ _ _ _ _ hr)
    · intro l1 l2 l3 l4 I J r hr
      rw [ze_X4_findTurnsBy_20] at hr
      unfold zb_X4_findTurnsBy_20 at hr
      refine zs_65_20 ?_
      refine And.intro (fun (h1 : l3 < 0) => ?_) (fun (h1 : ¬ (l3 < 0)) => ?_)
      · rw [if_pos h1] at hr
        show zz_run _ 65 79 [some (.ref 41), none, none, some (.int l3), none] [] (zz_S F I J) _ _
        refine zs_65_79 ?_
        refine And.intro (rfl) (And.intro (Nat.le_of_ble_eq_true rfl) (And.intro (Nat.le_of_ble_eq_true rfl) (And.intro (Nat.le_of_ble_eq_true rfl) ?_)))
        refine Exists.intro _ (Exists.intro _ (And.intro (zr_X4_valueAt F I J (d+2) 0 0 0) ?_))
        refine And.intro (fun (h2 : 0 ≤ (zv_X4_valueAt I 0 0 0)) => ?_) (fun (h2 : ¬ (0 ≤ (zv_X4_valueAt I 0 0 0))) => ?_)
        · rw [if_pos h2] at hr
          show zz_run _ 65 91 [some (.ref 41), none, none, some (.int l3), none] [] (zz_S F I J) _ _
          refine zs_65_91 ?_
          refine And.intro (rfl) (And.intro (Nat.le_of_ble_eq_true rfl) (And.intro (Nat.le_of_ble_eq_true rfl) (And.intro (Nat.le_of_ble_eq_true rfl) ?_)))
          obtain ⟨r1, cr1, hr⟩ := Option.bind_eq_some_iff.mp hr
          refine Exists.intro _ (Exists.intro _ (And.intro (zr_X4_followLatest F I J d N  r1 cr1) ?_))
          replace hr := Option.some.inj hr
          subst hr
          exact And.intro rfl (And.intro rfl rfl)
        · rw [if_neg h2] at hr
          replace hr := Option.some.inj hr
          subst hr
          exact And.intro rfl (And.intro rfl rfl)
      · rw [if_neg h1] at hr
        refine And.intro (rfl) ?_
        exact zz_wk [true, false, false, true, true] rfl (ih30 _ _ _ _ _ _ _ hr)
    · intro l1 l2 l3 l4 I J r hr
      rw [ze_X4_findTurnsBy_30] at hr
      unfold zb_X4_findTurnsBy_30 at hr
      refine zs_65_30 ?_
      refine And.intro (fun (h3 : l4 < 0) => ?_) (fun (h3 : ¬ (l4 < 0)) => ?_)
      · rw [if_pos h3] at hr
        show zz_run _ 65 73 [some (.ref 41), none, none, some (.int l3), some (.int l4)] [] (zz_S F I J) _ _
        refine zs_65_73 ?_
        exact zz_wk [true, false, false, true, false] rfl (ih20 _ _ _ _ _ _ _ hr)
      · rw [if_neg h3] at hr
        refine And.intro (rfl) (And.intro (Nat.le_of_ble_eq_true rfl) (And.intro (Nat.le_of_ble_eq_true rfl) (And.intro (Nat.le_of_ble_eq_true rfl) ?_)))
        refine Exists.intro _ (Exists.intro _ (And.intro (zr_X4_latestAt F I J d l3 l4 0) ?_))
        refine And.intro (rfl) (And.intro (Nat.le_of_ble_eq_true rfl) (And.intro (Nat.le_of_ble_eq_true rfl) (And.intro (Nat.le_of_ble_eq_true rfl) ?_)))
        refine Exists.intro _ (Exists.intro _ (And.intro (zr_X4_put F I J (d+2) l3 l4 0 (zv_X4_latestAt I l3 l4 0)) ?_))
        refine And.intro (rfl) (And.intro (Nat.le_of_ble_eq_true rfl) (And.intro (Nat.le_of_ble_eq_true rfl) (And.intro (Nat.le_of_ble_eq_true rfl) ?_)))
        refine Exists.intro _ (Exists.intro _ (And.intro (zr_X4_latestAt F (zw_X4_put I l3 l4 0 (zv_X4_latestAt I l3 l4 0)) J d l3 l4 1) ?_))
        refine And.intro (rfl) (And.intro (Nat.le_of_ble_eq_true rfl) (And.intro (Nat.le_of_ble_eq_true rfl) (And.intro (Nat.le_of_ble_eq_true rfl) ?_)))
        obtain ⟨i2, ci2, hr⟩ := Option.bind_eq_some_iff.mp hr
        refine Exists.intro _ (Exists.intro _ (And.intro (zz_bi ci2 (zr_X4_put F (zw_X4_put I l3 l4 0 (zv_X4_latestAt I l3 l4 0)) J (d+2) l3 l4 1 (zv_X4_latestAt (zw_X4_put I l3 l4 0 (zv_X4_latestAt I l3 l4 0)) l3 l4 1))) ?_))
        exact zz_wk [true, false, false, true, true] rfl (ih30 _ _ _ _ _ _ _ hr)
theorem zr_X4_findTurnsBy (F : zz_F) (I : Nat → Nat → Int32) (J : Nat → Nat → Int64) (d N : Nat) (l1 : Int32) (l2 : Int32) (r : Int32 × (Nat → Nat → Int32) × (Nat → Nat → Int64)) (h : zf_X4_findTurnsBy N l1 l2 I J = some r) : zz_run (d+3) 65 0 [some (.ref 41), some (.int l1), some (.int l2), none, none] [] (zz_S F I J) (some (.int r.1)) (zz_S F (r.2.1) J) := (zq_X4_findTurnsBy F d N N).1 l1 l2 0 0 I J r h
