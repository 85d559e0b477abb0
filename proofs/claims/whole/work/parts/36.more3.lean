/-! printed by wip/whole/loop2.py -/
def zb_X11_keep_0 (N : Nat) (rec : Nat → Int32 → (Nat → Nat → Int32) → (Nat → Nat → Int64) → Option (Int32 × (Nat → Nat → Int32) × (Nat → Nat → Int64))) (l1 : Int32) (I : Nat → Nat → Int32) (J : Nat → Nat → Int64) : Option (Int32 × (Nat → Nat → Int32) × (Nat → Nat → Int64)) := if l1 < 0 then (some (0, I, J)) else (if l1 < 2 then ((zf_X6_shelve__8 N l1 I J).bind fun r1 => some (1, r1.2.1, J)) else (some (0, I, J)))
def zl_X11_keep (N : Nat) : Nat → Nat → Int32 → (Nat → Nat → Int32) → (Nat → Nat → Int64) → Option (Int32 × (Nat → Nat → Int32) × (Nat → Nat → Int64))
  | 0 => fun _ _ _ _ => none
  | n + 1 => fun pc l1 I J => if pc = 0 then zb_X11_keep_0 N (zl_X11_keep N n) l1 I J else none
theorem ze_X11_keep_0 (N : Nat) (n : Nat) (l1 : Int32) (I : Nat → Nat → Int32) (J : Nat → Nat → Int64) : zl_X11_keep N (n+1) 0 l1 I J = zb_X11_keep_0 N (zl_X11_keep N n) l1 I J := by
  show (if 0 = 0 then zb_X11_keep_0 N (zl_X11_keep N n) l1 I J else none) = _
  rw [if_pos rfl]
def zf_X11_keep (N : Nat) (l1 : Int32) (I : Nat → Nat → Int32) (J : Nat → Nat → Int64) : Option (Int32 × (Nat → Nat → Int32) × (Nat → Nat → Int64)) := zl_X11_keep N N 0 l1 I J
theorem zq_X11_keep (F : zz_F) (d N : Nat) : ∀ n : Nat, (∀ (l1 : Int32) (I : Nat → Nat → Int32) (J : Nat → Nat → Int64) (r : Int32 × (Nat → Nat → Int32) × (Nat → Nat → Int64)), zl_X11_keep N n 0 l1 I J = some r → zz_run (d+2) 174 0 [some (.ref 2), some (.int l1)] [] (zz_S F I J) (some (.int r.1)) (zz_S F (r.2.1) J)) := by
  intro n
  induction n with
  | zero => exact fun _ _ _ _ h => zz_no h
  | succ n ih =>
    have ih0 := ih
    skip
    · intro l1 I J r hr
      rw [ze_X11_keep_0] at hr
      unfold zb_X11_keep_0 at hr
      refine zs_174_0 ?_
      refine And.intro (fun (h1 : l1 < 0) => ?_) (fun (h1 : ¬ (l1 < 0)) => ?_)
      · rw [if_pos h1] at hr
        show zz_run _ 174 9 [some (.ref 2), some (.int l1)] [] (zz_S F I J) _ _
        refine zs_174_9 ?_
        replace hr := Option.some.inj hr
        subst hr
        exact And.intro rfl (And.intro rfl rfl)
      · rw [if_neg h1] at hr
        refine And.intro (fun (h2 : l1 < 2) => ?_) (fun (h2 : ¬ (l1 < 2)) => ?_)
        · rw [if_pos h2] at hr
          show zz_run _ 174 11 [some (.ref 2), some (.int l1)] [] (zz_S F I J) _ _
          refine zs_174_11 ?_
          refine And.intro (rfl) (And.intro (rfl) (And.intro (rfl) (And.intro (Nat.le_of_ble_eq_true rfl) (And.intro (Nat.le_of_ble_eq_true rfl) (And.intro (Nat.le_of_ble_eq_true rfl) ?_)))))
          obtain ⟨r1, cr1, hr⟩ := Option.bind_eq_some_iff.mp hr
          refine Exists.intro _ (Exists.intro _ (And.intro (zr_X6_shelve__8 F I J d N l1 r1 cr1) ?_))
          replace hr := Option.some.inj hr
          subst hr
          exact And.intro rfl (And.intro rfl rfl)
        · rw [if_neg h2] at hr
          show zz_run _ 174 9 [some (.ref 2), some (.int l1)] [] (zz_S F I J) _ _
          refine zs_174_9 ?_
          replace hr := Option.some.inj hr
          subst hr
          exact And.intro rfl (And.intro rfl rfl)
theorem zr_X11_keep (F : zz_F) (I : Nat → Nat → Int32) (J : Nat → Nat → Int64) (d N : Nat) (l1 : Int32) (r : Int32 × (Nat → Nat → Int32) × (Nat → Nat → Int64)) (h : zf_X11_keep N l1 I J = some r) : zz_run (d+2) 174 0 [some (.ref 2), some (.int l1)] [] (zz_S F I J) (some (.int r.1)) (zz_S F (r.2.1) J) := (zq_X11_keep F d N N) l1 I J r h
def zb_X11_again_0 (N : Nat) (rec : Nat → Int32 → (Nat → Nat → Int32) → (Nat → Nat → Int64) → Option (Int32 × (Nat → Nat → Int32) × (Nat → Nat → Int64))) (l1 : Int32) (I : Nat → Nat → Int32) (J : Nat → Nat → Int64) : Option (Int32 × (Nat → Nat → Int32) × (Nat → Nat → Int64)) := if ¬ (zv_X6_isShelved I l1) = 0 then ((zf_X6_unshelve__8 N l1 I J).bind fun r1 => some (1, zw_X6_forgetUndone r1.2.1, J)) else (some (0, I, J))
def zl_X11_again (N : Nat) : Nat → Nat → Int32 → (Nat → Nat → Int32) → (Nat → Nat → Int64) → Option (Int32 × (Nat → Nat → Int32) × (Nat → Nat → Int64))
  | 0 => fun _ _ _ _ => none
  | n + 1 => fun pc l1 I J => if pc = 0 then zb_X11_again_0 N (zl_X11_again N n) l1 I J else none
theorem ze_X11_again_0 (N : Nat) (n : Nat) (l1 : Int32) (I : Nat → Nat → Int32) (J : Nat → Nat → Int64) : zl_X11_again N (n+1) 0 l1 I J = zb_X11_again_0 N (zl_X11_again N n) l1 I J := by
  show (if 0 = 0 then zb_X11_again_0 N (zl_X11_again N n) l1 I J else none) = _
  rw [if_pos rfl]
def zf_X11_again (N : Nat) (l1 : Int32) (I : Nat → Nat → Int32) (J : Nat → Nat → Int64) : Option (Int32 × (Nat → Nat → Int32) × (Nat → Nat → Int64)) := zl_X11_again N N 0 l1 I J
theorem zq_X11_again (F : zz_F) (d N : Nat) : ∀ n : Nat, (∀ (l1 : Int32) (I : Nat → Nat → Int32) (J : Nat → Nat → Int64) (r : Int32 × (Nat → Nat → Int32) × (Nat → Nat → Int64)), zl_X11_again N n 0 l1 I J = some r → zz_run (d+2) 175 0 [some (.ref 2), some (.int l1)] [] (zz_S F I J) (some (.int r.1)) (zz_S F (r.2.1) J)) := by
  intro n
  induction n with
  | zero => exact fun _ _ _ _ h => zz_no h
  | succ n ih =>
    have ih0 := ih
    skip
    · intro l1 I J r hr
      rw [ze_X11_again_0] at hr
      unfold zb_X11_again_0 at hr
      refine zs_175_0 ?_
      refine And.intro (rfl) (And.intro (rfl) (And.intro (Nat.le_of_ble_eq_true rfl) (And.intro (Nat.le_of_ble_eq_true rfl) (And.intro (Nat.le_of_ble_eq_true rfl) ?_))))
      refine Exists.intro _ (Exists.intro _ (And.intro (zr_X6_isShelved F I J (d+1) l1) ?_))
      refine And.intro (fun (h1 : ¬ (zv_X6_isShelved I l1) = 0) => ?_) (fun (h1 : ¬ (¬ (zv_X6_isShelved I l1) = 0)) => ?_)
      · rw [if_pos h1] at hr
        show zz_run _ 175 13 [some (.ref 2), some (.int l1)] [] (zz_S F I J) _ _
        refine zs_175_13 ?_
        refine And.intro (rfl) (And.intro (rfl) (And.intro (rfl) (And.intro (Nat.le_of_ble_eq_true rfl) (And.intro (Nat.le_of_ble_eq_true rfl) (And.intro (Nat.le_of_ble_eq_true rfl) ?_)))))
        obtain ⟨r1, cr1, hr⟩ := Option.bind_eq_some_iff.mp hr
        refine Exists.intro _ (Exists.intro _ (And.intro (zr_X6_unshelve__8 F I J d N l1 r1 cr1) ?_))
        refine And.intro (rfl) (And.intro (rfl) (And.intro (Nat.le_of_ble_eq_true rfl) (And.intro (Nat.le_of_ble_eq_true rfl) (And.intro (Nat.le_of_ble_eq_true rfl) ?_))))
        refine Exists.intro _ (Exists.intro _ (And.intro (zr_X6_forgetUndone F r1.2.1 J (d+1) ) ?_))
        replace hr := Option.some.inj hr
        subst hr
        exact And.intro rfl (And.intro rfl rfl)
      · rw [if_neg h1] at hr
        replace hr := Option.some.inj hr
        subst hr
        exact And.intro rfl (And.intro rfl rfl)
theorem zr_X11_again (F : zz_F) (I : Nat → Nat → Int32) (J : Nat → Nat → Int64) (d N : Nat) (l1 : Int32) (r : Int32 × (Nat → Nat → Int32) × (Nat → Nat → Int64)) (h : zf_X11_again N l1 I J = some r) : zz_run (d+2) 175 0 [some (.ref 2), some (.int l1)] [] (zz_S F I J) (some (.int r.1)) (zz_S F (r.2.1) J) := (zq_X11_again F d N N) l1 I J r h
def zb_X11_tellFraction_0 (N : Nat) (rec : Nat → Int64 → Int64 → Int64 → Int64 → Int32 → (Nat → Nat → Int32) → (Nat → Nat → Int64) → Option (Int32 × (Nat → Nat → Int32) × (Nat → Nat → Int64))) (m1 : Int64) (m3 : Int64) (m5 : Int64) (m7 : Int64) (l9 : Int32) (I : Nat → Nat → Int32) (J : Nat → Nat → Int64) : Option (Int32 × (Nat → Nat → Int32) × (Nat → Nat → Int64)) := rec 9 m1 m3 m1 m3 0 I J
def zb_X11_tellFraction_9 (N : Nat) (rec : Nat → Int64 → Int64 → Int64 → Int64 → Int32 → (Nat → Nat → Int32) → (Nat → Nat → Int64) → Option (Int32 × (Nat → Nat → Int32) × (Nat → Nat → Int64))) (m1 : Int64) (m3 : Int64) (m5 : Int64) (m7 : Int64) (l9 : Int32) (I : Nat → Nat → Int32) (J : Nat → Nat → Int64) : Option (Int32 × (Nat → Nat → Int32) × (Nat → Nat → Int64)) := if 100 ≤ l9 then (if ¬ (lg_cmp m5 0) = 0 then (if ¬ m5 = 0 then (some (0, zw_X11_tell_ I J (m1 / m5) (m3 / m5), zx_X11_tell_ I J (m1 / m5) (m3 / m5))) else none) else (some (0, zw_X11_tell_ I J m1 m3, zx_X11_tell_ I J m1 m3))) else (if (lg_cmp m7 0) = 0 then (if ¬ (lg_cmp m5 0) = 0 then (if ¬ m5 = 0 then (some (0, zw_X11_tell_ I J (m1 / m5) (m3 / m5), zx_X11_tell_ I J (m1 / m5) (m3 / m5))) else none) else (some (0, zw_X11_tell_ I J m1 m3, zx_X11_tell_ I J m1 m3))) else (if ¬ m7 = 0 then (rec 9 m1 m3 m7 (m5 - m5 / m7 * m7) (l9 + 1) I J) else none))
def zl_X11_tellFraction (N : Nat) : Nat → Nat → Int64 → Int64 → Int64 → Int64 → Int32 → (Nat → Nat → Int32) → (Nat → Nat → Int64) → Option (Int32 × (Nat → Nat → Int32) × (Nat → Nat → Int64))
  | 0 => fun _ _ _ _ _ _ _ _ => none
  | n + 1 => fun pc m1 m3 m5 m7 l9 I J => if pc = 0 then zb_X11_tellFraction_0 N (zl_X11_tellFraction N n) m1 m3 m5 m7 l9 I J else (if pc = 9 then zb_X11_tellFraction_9 N (zl_X11_tellFraction N n) m1 m3 m5 m7 l9 I J else none)
theorem ze_X11_tellFraction_0 (N : Nat) (n : Nat) (m1 : Int64) (m3 : Int64) (m5 : Int64) (m7 : Int64) (l9 : Int32) (I : Nat → Nat → Int32) (J : Nat → Nat → Int64) : zl_X11_tellFraction N (n+1) 0 m1 m3 m5 m7 l9 I J = zb_X11_tellFraction_0 N (zl_X11_tellFraction N n) m1 m3 m5 m7 l9 I J := by
  show (if 0 = 0 then zb_X11_tellFraction_0 N (zl_X11_tellFraction N n) m1 m3 m5 m7 l9 I J else (if 0 = 9 then zb_X11_tellFraction_9 N (zl_X11_tellFraction N n) m1 m3 m5 m7 l9 I J else none)) = _
  rw [if_pos rfl]
theorem ze_X11_tellFraction_9 (N : Nat) (n : Nat) (m1 : Int64) (m3 : Int64) (m5 : Int64) (m7 : Int64) (l9 : Int32) (I : Nat → Nat → Int32) (J : Nat → Nat → Int64) : zl_X11_tellFraction N (n+1) 9 m1 m3 m5 m7 l9 I J = zb_X11_tellFraction_9 N (zl_X11_tellFraction N n) m1 m3 m5 m7 l9 I J := by
  show (if 9 = 0 then zb_X11_tellFraction_0 N (zl_X11_tellFraction N n) m1 m3 m5 m7 l9 I J else (if 9 = 9 then zb_X11_tellFraction_9 N (zl_X11_tellFraction N n) m1 m3 m5 m7 l9 I J else none)) = _
  rw [if_neg (by decide), if_pos rfl]
def zf_X11_tellFraction (N : Nat) (m1 : Int64) (m3 : Int64) (I : Nat → Nat → Int32) (J : Nat → Nat → Int64) : Option (Int32 × (Nat → Nat → Int32) × (Nat → Nat → Int64)) := zl_X11_tellFraction N N 0 m1 m3 0 0 0 I J
theorem zq_X11_tellFraction (F : zz_F) (d N : Nat) : ∀ n : Nat, (∀ (m1 : Int64) (m3 : Int64) (m5 : Int64) (m7 : Int64) (l9 : Int32) (I : Nat → Nat → Int32) (J : Nat → Nat → Int64) (r : Int32 × (Nat → Nat → Int32) × (Nat → Nat → Int64)), zl_X11_tellFraction N n 0 m1 m3 m5 m7 l9 I J = some r → zz_run (d+3) 189 0 [some (.ref 2), some (.long m1), none, some (.long m3), none, none, none, none, none, none, none, none] [] (zz_S F I J) none (zz_S F (r.2.1) (r.2.2))) ∧ (∀ (m1 : Int64) (m3 : Int64) (m5 : Int64) (m7 : Int64) (l9 : Int32) (I : Nat → Nat → Int32) (J : Nat → Nat → Int64) (r : Int32 × (Nat → Nat → Int32) × (Nat → Nat → Int64)), zl_X11_tellFraction N n 9 m1 m3 m5 m7 l9 I J = some r → zz_run (d+3) 189 9 [some (.ref 2), some (.long m1), none, some (.long m3), none, some (.long m5), none, some (.long m7), none, some (.int l9), none, none] [] (zz_S F I J) none (zz_S F (r.2.1) (r.2.2))) := by
  intro n
  induction n with
  | zero => exact ⟨fun _ _ _ _ _ _ _ _ h => zz_no h, fun _ _ _ _ _ _ _ _ h => zz_no h⟩
  | succ n ih =>
    obtain ⟨ih0, ih9⟩ := ih
    refine ⟨?_, ?_⟩
    · intro m1 m3 m5 m7 l9 I J r hr
      rw [ze_X11_tellFraction_0] at hr
      unfold zb_X11_tellFraction_0 at hr
      refine zs_189_0 ?_
      exact zz_wk [true, true, false, true, false, true, false, true, false, true, false, false] rfl (ih9 _ _ _ _ _ _ _ _ hr)
    · intro m1 m3 m5 m7 l9 I J r hr
      rw [ze_X11_tellFraction_9] at hr
      unfold zb_X11_tellFraction_9 at hr
      refine zs_189_9 ?_
      refine And.intro (fun (h1 : 100 ≤ l9) => ?_) (fun (h1 : ¬ (100 ≤ l9)) => ?_)
      · rw [if_pos h1] at hr
        show zz_run _ 189 44 [some (.ref 2), some (.long m1), none, some (.long m3), none, some (.long m5), none, some (.long m7), none, some (.int l9), none, none] [] (zz_S F I J) _ _
        refine zs_189_44 ?_
        refine And.intro (fun (h2 : ¬ (lg_cmp m5 0) = 0) => ?_) (fun (h2 : ¬ (¬ (lg_cmp m5 0) = 0)) => ?_)
        · rw [if_pos h2] at hr
          show zz_run _ 189 60 [some (.ref 2), some (.long m1), none, some (.long m3), none, some (.long m5), none, some (.long m7), none, some (.int l9), none, none] [] (zz_S F I J) _ _
          refine zs_189_60 ?_
          have g1 : ¬ m5 = 0 := zz_g hr
          replace hr := zz_gt hr
          refine And.intro (g1) (And.intro (g1) (And.intro (rfl) (And.intro (Nat.le_of_ble_eq_true rfl) (And.intro (Nat.le_of_ble_eq_true rfl) (And.intro (Nat.le_of_ble_eq_true rfl) ?_)))))
          refine Exists.intro _ (Exists.intro _ (And.intro (zr_X11_tell_ F I J d (m1 / m5) (m3 / m5)) ?_))
          show zz_run _ 189 72 [some (.ref 2), some (.long m1), none, some (.long m3), none, some (.long m5), none, some (.long m7), none, some (.int l9), none, none] [] (zz_S F (zw_X11_tell_ I J (m1 / m5) (m3 / m5)) (zx_X11_tell_ I J (m1 / m5) (m3 / m5))) _ _
          refine zs_189_72 ?_
          replace hr := Option.some.inj hr
          subst hr
          exact And.intro rfl (And.intro rfl rfl)
        · rw [if_neg h2] at hr
          refine And.intro (rfl) (And.intro (Nat.le_of_ble_eq_true rfl) (And.intro (Nat.le_of_ble_eq_true rfl) (And.intro (Nat.le_of_ble_eq_true rfl) ?_)))
          refine Exists.intro _ (Exists.intro _ (And.intro (zr_X11_tell_ F I J d m1 m3) ?_))
          show zz_run _ 189 72 [some (.ref 2), some (.long m1), none, some (.long m3), none, some (.long m5), none, some (.long m7), none, some (.int l9), none, none] [] (zz_S F (zw_X11_tell_ I J m1 m3) (zx_X11_tell_ I J m1 m3)) _ _
          refine zs_189_72 ?_
          replace hr := Option.some.inj hr
          subst hr
          exact And.intro rfl (And.intro rfl rfl)
      · rw [if_neg h1] at hr
        refine And.intro (fun (h3 : (lg_cmp m7 0) = 0) => ?_) (fun (h3 : ¬ ((lg_cmp m7 0) = 0)) => ?_)
        · rw [if_pos h3] at hr
          show zz_run _ 189 44 [some (.ref 2), some (.long m1), none, some (.long m3), none, some (.long m5), none, some (.long m7), none, some (.int l9), none, none] [] (zz_S F I J) _ _
          refine zs_189_44 ?_
          refine And.intro (fun (h4 : ¬ (lg_cmp m5 0) = 0) => ?_) (fun (h4 : ¬ (¬ (lg_cmp m5 0) = 0)) => ?_)
          · rw [if_pos h4] at hr
            show zz_run _ 189 60 [some (.ref 2), some (.long m1), none, some (.long m3), none, some (.long m5), none, some (.long m7), none, some (.int l9), none, none] [] (zz_S F I J) _ _
            refine zs_189_60 ?_
            have g2 : ¬ m5 = 0 := zz_g hr
            replace hr := zz_gt hr
            refine And.intro (g2) (And.intro (g2) (And.intro (rfl) (And.intro (Nat.le_of_ble_eq_true rfl) (And.intro (Nat.le_of_ble_eq_true rfl) (And.intro (Nat.le_of_ble_eq_true rfl) ?_)))))
            refine Exists.intro _ (Exists.intro _ (And.intro (zr_X11_tell_ F I J d (m1 / m5) (m3 / m5)) ?_))
            show zz_run _ 189 72 [some (.ref 2), some (.long m1), none, some (.long m3), none, some (.long m5), none, some (.long m7), none, some (.int l9), none, none] [] (zz_S F (zw_X11_tell_ I J (m1 / m5) (m3 / m5)) (zx_X11_tell_ I J (m1 / m5) (m3 / m5))) _ _
            refine zs_189_72 ?_
            replace hr := Option.some.inj hr
            subst hr
            exact And.intro rfl (And.intro rfl rfl)
          · rw [if_neg h4] at hr
            refine And.intro (rfl) (And.intro (Nat.le_of_ble_eq_true rfl) (And.intro (Nat.le_of_ble_eq_true rfl) (And.intro (Nat.le_of_ble_eq_true rfl) ?_)))
            refine Exists.intro _ (Exists.intro _ (And.intro (zr_X11_tell_ F I J d m1 m3) ?_))
            show zz_run _ 189 72 [some (.ref 2), some (.long m1), none, some (.long m3), none, some (.long m5), none, some (.long m7), none, some (.int l9), none, none] [] (zz_S F (zw_X11_tell_ I J m1 m3) (zx_X11_tell_ I J m1 m3)) _ _
            refine zs_189_72 ?_
            replace hr := Option.some.inj hr
            subst hr
            exact And.intro rfl (And.intro rfl rfl)
        · rw [if_neg h3] at hr
          have g3 : ¬ m7 = 0 := zz_g hr
          replace hr := zz_gt hr
          refine And.intro (g3) ?_
          exact zz_wk [true, true, false, true, false, true, false, true, false, true, false, false] rfl (ih9 _ _ _ _ _ _ _ _ hr)
theorem zr_X11_tellFraction (F : zz_F) (I : Nat → Nat → Int32) (J : Nat → Nat → Int64) (d N : Nat) (m1 : Int64) (m3 : Int64) (r : Int32 × (Nat → Nat → Int32) × (Nat → Nat → Int64)) (h : zf_X11_tellFraction N m1 m3 I J = some r) : zz_run (d+3) 189 0 [some (.ref 2), some (.long m1), none, some (.long m3), none, none, none, none, none, none, none, none] [] (zz_S F I J) none (zz_S F (r.2.1) (r.2.2)) := (zq_X11_tellFraction F d N N).1 m1 m3 0 0 0 I J r h
def zb_X11_setMinutes_0 (N : Nat) (rec : Nat → Int32 → Int32 → Int32 → Int32 → Int32 → Int32 → (Nat → Nat → Int32) → (Nat → Nat → Int64) → Option (Int32 × (Nat → Nat → Int32) × (Nat → Nat → Int64))) (l1 : Int32) (l2 : Int32) (l3 : Int32) (l4 : Int32) (l5 : Int32) (l6 : Int32) (I : Nat → Nat → Int32) (J : Nat → Nat → Int64) : Option (Int32 × (Nat → Nat → Int32) × (Nat → Nat → Int64)) := rec 6 l1 l2 l3 l4 0 0 I J
def zb_X11_setMinutes_6 (N : Nat) (rec : Nat → Int32 → Int32 → Int32 → Int32 → Int32 → Int32 → (Nat → Nat → Int32) → (Nat → Nat → Int64) → Option (Int32 × (Nat → Nat → Int32) × (Nat → Nat → Int64))) (l1 : Int32) (l2 : Int32) (l3 : Int32) (l4 : Int32) (l5 : Int32) (l6 : Int32) (I : Nat → Nat → Int32) (J : Nat → Nat → Int64) : Option (Int32 × (Nat → Nat → Int32) × (Nat → Nat → Int64)) := if (I 5 2) ≤ l6 then (some (l5, zw_X1_growStale I, J)) else (if l2 ≤ l6 then (rec 6 l1 l2 l3 l4 (l5 + 1) (l6 + 1) (zz_putm I l6 1 1) J) else ((zf_X11_entry N l1 (l3 + (l6 * l4)) I J).bind fun r1 => rec 6 l1 l2 l3 l4 (l5 + (zz_max 1 (zz_min 9 r1.1))) (l6 + 1) (zz_putm I l6 1 (zz_max 1 (zz_min 9 r1.1))) J))
def zl_X11_setMinutes (N : Nat) : Nat → Nat → Int32 → Int32 → Int32 → Int32 → Int32 → Int32 → (Nat → Nat → Int32) → (Nat → Nat → Int64) → Option (Int32 × (Nat → Nat → Int32) × (Nat → Nat → Int64))
  | 0 => fun _ _ _ _ _ _ _ _ _ => none
  | n + 1 => fun pc l1 l2 l3 l4 l5 l6 I J => if pc = 0 then zb_X11_setMinutes_0 N (zl_X11_setMinutes N n) l1 l2 l3 l4 l5 l6 I J else (if pc = 6 then zb_X11_setMinutes_6 N (zl_X11_setMinutes N n) l1 l2 l3 l4 l5 l6 I J else none)
theorem ze_X11_setMinutes_0 (N : Nat) (n : Nat) (l1 : Int32) (l2 : Int32) (l3 : Int32) (l4 : Int32) (l5 : Int32) (l6 : Int32) (I : Nat → Nat → Int32) (J : Nat → Nat → Int64) : zl_X11_setMinutes N (n+1) 0 l1 l2 l3 l4 l5 l6 I J = zb_X11_setMinutes_0 N (zl_X11_setMinutes N n) l1 l2 l3 l4 l5 l6 I J := by
  show (if 0 = 0 then zb_X11_setMinutes_0 N (zl_X11_setMinutes N n) l1 l2 l3 l4 l5 l6 I J else (if 0 = 6 then zb_X11_setMinutes_6 N (zl_X11_setMinutes N n) l1 l2 l3 l4 l5 l6 I J else none)) = _
  rw [if_pos rfl]
theorem ze_X11_setMinutes_6 (N : Nat) (n : Nat) (l1 : Int32) (l2 : Int32) (l3 : Int32) (l4 : Int32) (l5 : Int32) (l6 : Int32) (I : Nat → Nat → Int32) (J : Nat → Nat → Int64) : zl_X11_setMinutes N (n+1) 6 l1 l2 l3 l4 l5 l6 I J = zb_X11_setMinutes_6 N (zl_X11_setMinutes N n) l1 l2 l3 l4 l5 l6 I J := by
  show (if 6 = 0 then zb_X11_setMinutes_0 N (zl_X11_setMinutes N n) l1 l2 l3 l4 l5 l6 I J else (if 6 = 6 then zb_X11_setMinutes_6 N (zl_X11_setMinutes N n) l1 l2 l3 l4 l5 l6 I J else none)) = _
  rw [if_neg (by decide), if_pos rfl]
def zf_X11_setMinutes (N : Nat) (l1 : Int32) (l2 : Int32) (l3 : Int32) (l4 : Int32) (I : Nat → Nat → Int32) (J : Nat → Nat → Int64) : Option (Int32 × (Nat → Nat → Int32) × (Nat → Nat → Int64)) := zl_X11_setMinutes N N 0 l1 l2 l3 l4 0 0 I J
theorem zq_X11_setMinutes (F : zz_F) (d N : Nat) : ∀ n : Nat, (∀ (l1 : Int32) (l2 : Int32) (l3 : Int32) (l4 : Int32) (l5 : Int32) (l6 : Int32) (I : Nat → Nat → Int32) (J : Nat → Nat → Int64) (r : Int32 × (Nat → Nat → Int32) × (Nat → Nat → Int64)), zl_X11_setMinutes N n 0 l1 l2 l3 l4 l5 l6 I J = some r → zz_run (d+1) 196 0 [some (.ref 2), some (.int l1), some (.int l2), some (.int l3), some (.int l4), none, none, none] [] (zz_S F I J) (some (.int r.1)) (zz_S F (r.2.1) J)) ∧ (∀ (l1 : Int32) (l2 : Int32) (l3 : Int32) (l4 : Int32) (l5 : Int32) (l6 : Int32) (I : Nat → Nat → Int32) (J : Nat → Nat → Int64) (r : Int32 × (Nat → Nat → Int32) × (Nat → Nat → Int64)), zl_X11_setMinutes N n 6 l1 l2 l3 l4 l5 l6 I J = some r → zz_run (d+1) 196 6 [some (.ref 2), some (.int l1), some (.int l2), some (.int l3), some (.int l4), some (.int l5), some (.int l6), none] [] (zz_S F I J) (some (.int r.1)) (zz_S F (r.2.1) J)) := by
  intro n
  induction n with
  | zero => exact ⟨fun _ _ _ _ _ _ _ _ _ h => zz_no h, fun _ _ _ _ _ _ _ _ _ h => zz_no h⟩
  | succ n ih =>
    obtain ⟨ih0, ih6⟩ := ih
    refine ⟨?_, ?_⟩
    · intro l1 l2 l3 l4 l5 l6 I J r hr
      rw [ze_X11_setMinutes_0] at hr
      unfold zb_X11_setMinutes_0 at hr
      refine zs_196_0 ?_
      exact zz_wk [true, true, true, true, true, true, true, false] rfl (ih6 _ _ _ _ _ _ _ _ _ hr)
    · intro l1 l2 l3 l4 l5 l6 I J r hr
      rw [ze_X11_setMinutes_6] at hr
      unfold zb_X11_setMinutes_6 at hr
      refine zs_196_6 ?_
      refine And.intro (rfl) (And.intro (rfl) (And.intro (fun (h1 : (I 5 2) ≤ l6) => ?_) (fun (h1 : ¬ ((I 5 2) ≤ l6)) => ?_)))
      · rw [if_pos h1] at hr
        show zz_run _ 196 74 [some (.ref 2), some (.int l1), some (.int l2), some (.int l3), some (.int l4), some (.int l5), some (.int l6), none] [] (zz_S F I J) _ _
        refine zs_196_74 ?_
        refine And.intro (rfl) (And.intro (rfl) (And.intro (Nat.le_of_ble_eq_true rfl) (And.intro (Nat.le_of_ble_eq_true rfl) (And.intro (Nat.le_of_ble_eq_true rfl) ?_))))
        refine Exists.intro _ (Exists.intro _ (And.intro (zr_X1_growStale F I J d ) ?_))
        replace hr := Option.some.inj hr
        subst hr
        exact And.intro rfl (And.intro rfl rfl)
      · rw [if_neg h1] at hr
        refine And.intro (fun (h2 : l2 ≤ l6) => ?_) (fun (h2 : ¬ (l2 ≤ l6)) => ?_)
        · rw [if_pos h2] at hr
          show zz_run _ 196 49 [some (.ref 2), some (.int l1), some (.int l2), some (.int l3), some (.int l4), some (.int l5), some (.int l6), some (.int 1)] [] (zz_S F I J) _ _
          refine zs_196_49 ?_
          refine And.intro (rfl) (And.intro (rfl) (And.intro (Nat.le_of_ble_eq_true rfl) (And.intro (Nat.le_of_ble_eq_true rfl) (And.intro (Nat.le_of_ble_eq_true rfl) ?_))))
          refine Exists.intro _ (Exists.intro _ (And.intro (zr_put F I J d l6 1 1) ?_))
          exact zz_wk [true, true, true, true, true, true, true, false] rfl (ih6 _ _ _ _ _ _ _ _ _ hr)
        · rw [if_neg h2] at hr
          refine And.intro (Nat.le_of_ble_eq_true rfl) (And.intro (Nat.le_of_ble_eq_true rfl) (And.intro (Nat.le_of_ble_eq_true rfl) ?_))
          obtain ⟨r1, cr1, hr⟩ := Option.bind_eq_some_iff.mp hr
          refine Exists.intro _ (Exists.intro _ (And.intro (zr_X11_entry F I J d N l1 (l3 + (l6 * l4)) r1 cr1) ?_))
          refine And.intro (Nat.le_of_ble_eq_true rfl) (And.intro (Nat.le_of_ble_eq_true rfl) (And.intro (Nat.le_of_ble_eq_true rfl) ?_))
          refine Exists.intro _ (Exists.intro _ (And.intro (zr_min F I J d 9 r1.1) ?_))
          refine And.intro (Nat.le_of_ble_eq_true rfl) (And.intro (Nat.le_of_ble_eq_true rfl) (And.intro (Nat.le_of_ble_eq_true rfl) ?_))
          refine Exists.intro _ (Exists.intro _ (And.intro (zr_max F I J d 1 (zz_min 9 r1.1)) ?_))
          show zz_run _ 196 49 [some (.ref 2), some (.int l1), some (.int l2), some (.int l3), some (.int l4), some (.int l5), some (.int l6), some (.int (zz_max 1 (zz_min 9 r1.1)))] [] (zz_S F I J) _ _
          refine zs_196_49 ?_
          refine And.intro (rfl) (And.intro (rfl) (And.intro (Nat.le_of_ble_eq_true rfl) (And.intro (Nat.le_of_ble_eq_true rfl) (And.intro (Nat.le_of_ble_eq_true rfl) ?_))))
          refine Exists.intro _ (Exists.intro _ (And.intro (zr_put F I J d l6 1 (zz_max 1 (zz_min 9 r1.1))) ?_))
          exact zz_wk [true, true, true, true, true, true, true, false] rfl (ih6 _ _ _ _ _ _ _ _ _ hr)
theorem zr_X11_setMinutes (F : zz_F) (I : Nat → Nat → Int32) (J : Nat → Nat → Int64) (d N : Nat) (l1 : Int32) (l2 : Int32) (l3 : Int32) (l4 : Int32) (r : Int32 × (Nat → Nat → Int32) × (Nat → Nat → Int64)) (h : zf_X11_setMinutes N l1 l2 l3 l4 I J = some r) : zz_run (d+1) 196 0 [some (.ref 2), some (.int l1), some (.int l2), some (.int l3), some (.int l4), none, none, none] [] (zz_S F I J) (some (.int r.1)) (zz_S F (r.2.1) J) := (zq_X11_setMinutes F d N N).1 l1 l2 l3 l4 0 0 I J r h
def zb_X12_begin_0 (N : Nat) (rec : Nat → Nat → Int32 → Int32 → (Nat → Nat → Int32) → (Nat → Nat → Int64) → zz_F → Option (Int32 × (Nat → Nat → Int32) × (Nat → Nat → Int64) × zz_F)) (a1 : Nat) (l2 : Int32) (l3 : Int32) (I : Nat → Nat → Int32) (J : Nat → Nat → Int64) (F : zz_F) : Option (Int32 × (Nat → Nat → Int32) × (Nat → Nat → Int64) × zz_F) := some (0, zz_u (zz_u (zz_u (zz_u I 52 9 l2) 52 10 l3) 52 11 0) 52 12 ((-1)), J, zz_Fre F (some a1))
def zl_X12_begin (N : Nat) : Nat → Nat → Nat → Int32 → Int32 → (Nat → Nat → Int32) → (Nat → Nat → Int64) → zz_F → Option (Int32 × (Nat → Nat → Int32) × (Nat → Nat → Int64) × zz_F)
  | 0 => fun _ _ _ _ _ _ _ => none
  | n + 1 => fun pc a1 l2 l3 I J F => if pc = 0 then zb_X12_begin_0 N (zl_X12_begin N n) a1 l2 l3 I J F else none
theorem ze_X12_begin_0 (N : Nat) (n : Nat) (a1 : Nat) (l2 : Int32) (l3 : Int32) (I : Nat → Nat → Int32) (J : Nat → Nat → Int64) (F : zz_F) : zl_X12_begin N (n+1) 0 a1 l2 l3 I J F = zb_X12_begin_0 N (zl_X12_begin N n) a1 l2 l3 I J F := by
  show (if 0 = 0 then zb_X12_begin_0 N (zl_X12_begin N n) a1 l2 l3 I J F else none) = _
  rw [if_pos rfl]
def zf_X12_begin (N : Nat) (a1 : Nat) (l2 : Int32) (l3 : Int32) (I : Nat → Nat → Int32) (J : Nat → Nat → Int64) (F : zz_F) : Option (Int32 × (Nat → Nat → Int32) × (Nat → Nat → Int64) × zz_F) := zl_X12_begin N N 0 a1 l2 l3 I J F
theorem zq_X12_begin (d N : Nat) : ∀ n : Nat, (∀ (a1 : Nat) (l2 : Int32) (l3 : Int32) (I : Nat → Nat → Int32) (J : Nat → Nat → Int64) (F : zz_F) (r : Int32 × (Nat → Nat → Int32) × (Nat → Nat → Int64) × zz_F), zl_X12_begin N n 0 a1 l2 l3 I J F = some r → zz_run (d) 211 0 [some (.ref 52), some (.ref a1), some (.int l2), some (.int l3)] [] (zz_S F I J) none (zz_S (r.2.2.2) (r.2.1) (r.2.2.1))) := by
  intro n
  induction n with
  | zero => exact fun _ _ _ _ _ _ _ h => zz_no h
  | succ n ih =>
    have ih0 := ih
    skip
    · intro a1 l2 l3 I J F r hr
      rw [ze_X12_begin_0] at hr
      unfold zb_X12_begin_0 at hr
      refine zs_211_0 ?_
      refine And.intro (rfl) (And.intro (rfl) ?_)
      refine zz_kS (zz_pRre F I J a1) ?_
      refine And.intro (rfl) (And.intro (rfl) (And.intro (And.intro rfl rfl) (And.intro (rfl) (And.intro (rfl) (And.intro (And.intro rfl rfl) ?_)))))
      refine And.intro (rfl) (And.intro (rfl) (And.intro (And.intro rfl rfl) (And.intro (rfl) (And.intro (rfl) (And.intro (And.intro rfl rfl) ?_)))))
      replace hr := Option.some.inj hr
      subst hr
      exact And.intro rfl (And.intro rfl rfl)
theorem zr_X12_begin (d N : Nat) (a1 : Nat) (l2 : Int32) (l3 : Int32) (I : Nat → Nat → Int32) (J : Nat → Nat → Int64) (F : zz_F) (r : Int32 × (Nat → Nat → Int32) × (Nat → Nat → Int64) × zz_F) (h : zf_X12_begin N a1 l2 l3 I J F = some r) : zz_run (d) 211 0 [some (.ref 52), some (.ref a1), some (.int l2), some (.int l3)] [] (zz_S F I J) none (zz_S (r.2.2.2) (r.2.1) (r.2.2.1)) := (zq_X12_begin d N N) a1 l2 l3 I J F r h
def zb_X12_beginText_0 (N : Nat) (rec : Nat → Int32 → (Nat → Nat → Int32) → (Nat → Nat → Int64) → zz_F → Option (Int32 × (Nat → Nat → Int32) × (Nat → Nat → Int64) × zz_F)) (l1 : Int32) (I : Nat → Nat → Int32) (J : Nat → Nat → Int64) (F : zz_F) : Option (Int32 × (Nat → Nat → Int32) × (Nat → Nat → Int64) × zz_F) := (zf_X12_begin N 55 (I 52 4) l1 I J F).bind fun r1 => some (0, zz_u r1.2.1 52 4 0, r1.2.2.1, r1.2.2.2)
def zl_X12_beginText (N : Nat) : Nat → Nat → Int32 → (Nat → Nat → Int32) → (Nat → Nat → Int64) → zz_F → Option (Int32 × (Nat → Nat → Int32) × (Nat → Nat → Int64) × zz_F)
  | 0 => fun _ _ _ _ _ => none
  | n + 1 => fun pc l1 I J F => if pc = 0 then zb_X12_beginText_0 N (zl_X12_beginText N n) l1 I J F else none
theorem ze_X12_beginText_0 (N : Nat) (n : Nat) (l1 : Int32) (I : Nat → Nat → Int32) (J : Nat → Nat → Int64) (F : zz_F) : zl_X12_beginText N (n+1) 0 l1 I J F = zb_X12_beginText_0 N (zl_X12_beginText N n) l1 I J F := by
  show (if 0 = 0 then zb_X12_beginText_0 N (zl_X12_beginText N n) l1 I J F else none) = _
  rw [if_pos rfl]
def zf_X12_beginText (N : Nat) (l1 : Int32) (I : Nat → Nat → Int32) (J : Nat → Nat → Int64) (F : zz_F) : Option (Int32 × (Nat → Nat → Int32) × (Nat → Nat → Int64) × zz_F) := zl_X12_beginText N N 0 l1 I J F
theorem zq_X12_beginText (d N : Nat) : ∀ n : Nat, (∀ (l1 : Int32) (I : Nat → Nat → Int32) (J : Nat → Nat → Int64) (F : zz_F) (r : Int32 × (Nat → Nat → Int32) × (Nat → Nat → Int64) × zz_F), zl_X12_beginText N n 0 l1 I J F = some r → zz_run (d+1) 212 0 [some (.ref 52), some (.int l1)] [] (zz_S F I J) none (zz_S (r.2.2.2) (r.2.1) (r.2.2.1))) := by
  intro n
  induction n with
  | zero => exact fun _ _ _ _ _ h => zz_no h
  | succ n ih =>
    have ih0 := ih
    skip
    · intro l1 I J F r hr
      rw [ze_X12_beginText_0] at hr
      unfold zb_X12_beginText_0 at hr
      refine zs_212_0 ?_
      refine And.intro (rfl) (And.intro (rfl) (And.intro (rfl) (And.intro (Nat.le_of_ble_eq_true rfl) (And.intro (Nat.le_of_ble_eq_true rfl) (And.intro (Nat.le_of_ble_eq_true rfl) ?_)))))
      obtain ⟨r1, cr1, hr⟩ := Option.bind_eq_some_iff.mp hr
      refine Exists.intro _ (Exists.intro _ (And.intro (zr_X12_begin d N 55 (I 52 4) l1 I J F r1 cr1) ?_))
      refine And.intro (rfl) (And.intro (rfl) (And.intro (And.intro rfl rfl) ?_))
      replace hr := Option.some.inj hr
      subst hr
      exact And.intro rfl (And.intro rfl rfl)
theorem zr_X12_beginText (d N : Nat) (l1 : Int32) (I : Nat → Nat → Int32) (J : Nat → Nat → Int64) (F : zz_F) (r : Int32 × (Nat → Nat → Int32) × (Nat → Nat → Int64) × zz_F) (h : zf_X12_beginText N l1 I J F = some r) : zz_run (d+1) 212 0 [some (.ref 52), some (.int l1)] [] (zz_S F I J) none (zz_S (r.2.2.2) (r.2.1) (r.2.2.1)) := (zq_X12_beginText d N N) l1 I J F r h
def zb_X12_here_0 (N : Nat) (rec : Nat → (Nat → Nat → Int32) → (Nat → Nat → Int64) → zz_F → Option (Int32 × (Nat → Nat → Int32) × (Nat → Nat → Int64) × zz_F))  (I : Nat → Nat → Int32) (J : Nat → Nat → Int64) (F : zz_F) : Option (Int32 × (Nat → Nat → Int32) × (Nat → Nat → Int64) × zz_F) := if (I 52 9) ≤ (I 52 11) then (some ((-1), I, J, F)) else (if (I 52 10) ≤ (I 52 11) then (some ((-1), I, J, F)) else (if zz_re F = some ((zz_re F).getD 0) then (if zz_XK F.2.2.1 ((zz_re F).getD 0) = 12 then (if ¬ ((I 52 11) < 0 ∨ (zz_XL F.2.2.2.2.1 F.2.2.2.1 ((zz_re F).getD 0)) ≤ (I 52 11).toNatClampNeg) then (some ((I ((zz_re F).getD 0) ((I 52 11).toNatClampNeg)) &&& 255, I, J, F)) else none) else none) else none))
def zl_X12_here (N : Nat) : Nat → Nat → (Nat → Nat → Int32) → (Nat → Nat → Int64) → zz_F → Option (Int32 × (Nat → Nat → Int32) × (Nat → Nat → Int64) × zz_F)
  | 0 => fun _ _ _ _ => none
  | n + 1 => fun pc  I J F => if pc = 0 then zb_X12_here_0 N (zl_X12_here N n)  I J F else none
theorem ze_X12_here_0 (N : Nat) (n : Nat)  (I : Nat → Nat → Int32) (J : Nat → Nat → Int64) (F : zz_F) : zl_X12_here N (n+1) 0  I J F = zb_X12_here_0 N (zl_X12_here N n)  I J F := by
  show (if 0 = 0 then zb_X12_here_0 N (zl_X12_here N n)  I J F else none) = _
  rw [if_pos rfl]
def zf_X12_here (N : Nat)  (I : Nat → Nat → Int32) (J : Nat → Nat → Int64) (F : zz_F) : Option (Int32 × (Nat → Nat → Int32) × (Nat → Nat → Int64) × zz_F) := zl_X12_here N N 0  I J F
theorem zq_X12_here (d N : Nat) : ∀ n : Nat, (∀  (I : Nat → Nat → Int32) (J : Nat → Nat → Int64) (F : zz_F) (r : Int32 × (Nat → Nat → Int32) × (Nat → Nat → Int64) × zz_F), zl_X12_here N n 0  I J F = some r → zz_run (d) 213 0 [some (.ref 52)] [] (zz_S F I J) (some (.int r.1)) (zz_S (r.2.2.2) (r.2.1) (r.2.2.1))) := by
  intro n
  induction n with
  | zero => exact fun _ _ _ _ h => zz_no h
  | succ n ih =>
    have ih0 := ih
    skip
    · intro  I J F r hr
      rw [ze_X12_here_0] at hr
      unfold zb_X12_here_0 at hr
      refine zs_213_0 ?_
      refine And.intro (rfl) (And.intro (rfl) (And.intro (fun (h1 : (I 52 9) ≤ (I 52 11)) => ?_) (fun (h1 : ¬ ((I 52 9) ≤ (I 52 11))) => ?_)))
      · rw [if_pos h1] at hr
        show zz_run _ 213 38 [some (.ref 52)] [] (zz_S F I J) _ _
        refine zs_213_38 ?_
        show zz_run _ 213 39 [some (.ref 52)] [.int ((-1))] (zz_S F I J) _ _
        refine zs_213_39 ?_
        replace hr := Option.some.inj hr
        subst hr
        exact And.intro rfl (And.intro rfl rfl)
      · rw [if_neg h1] at hr
        refine And.intro (rfl) (And.intro (rfl) (And.intro (fun (h2 : (I 52 10) ≤ (I 52 11)) => ?_) (fun (h2 : ¬ ((I 52 10) ≤ (I 52 11))) => ?_)))
        · rw [if_pos h2] at hr
          show zz_run _ 213 38 [some (.ref 52)] [] (zz_S F I J) _ _
          refine zs_213_38 ?_
          show zz_run _ 213 39 [some (.ref 52)] [.int ((-1))] (zz_S F I J) _ _
          refine zs_213_39 ?_
          replace hr := Option.some.inj hr
          subst hr
          exact And.intro rfl (And.intro rfl rfl)
        · rw [if_neg h2] at hr
          refine And.intro (rfl) ?_
          have g1 : zz_re F = some ((zz_re F).getD 0) := zz_g hr
          replace hr := zz_gt hr
          refine zz_rvs g1 ?_
          refine And.intro (rfl) ?_
          have g2 : zz_XK F.2.2.1 ((zz_re F).getD 0) = 12 := zz_g hr
          replace hr := zz_gt hr
          refine And.intro (Or.inl g2) ?_
          have g3 : ¬ ((I 52 11) < 0 ∨ (zz_XL F.2.2.2.2.1 F.2.2.2.1 ((zz_re F).getD 0)) ≤ (I 52 11).toNatClampNeg) := zz_g hr
          replace hr := zz_gt hr
          refine And.intro (g3) ?_
          show zz_run _ 213 39 [some (.ref 52)] [.int ((I ((zz_re F).getD 0) ((I 52 11).toNatClampNeg)) &&& 255)] (zz_S F I J) _ _
          refine zs_213_39 ?_
          replace hr := Option.some.inj hr
          subst hr
          exact And.intro rfl (And.intro rfl rfl)
theorem zr_X12_here (d N : Nat)  (I : Nat → Nat → Int32) (J : Nat → Nat → Int64) (F : zz_F) (r : Int32 × (Nat → Nat → Int32) × (Nat → Nat → Int64) × zz_F) (h : zf_X12_here N  I J F = some r) : zz_run (d) 213 0 [some (.ref 52)] [] (zz_S F I J) (some (.int r.1)) (zz_S (r.2.2.2) (r.2.1) (r.2.2.1)) := (zq_X12_here d N N)  I J F r h
def zb_X12_passes_0 (N : Nat) (rec : Nat → Int32 → (Nat → Nat → Int32) → (Nat → Nat → Int64) → zz_F → Option (Int32 × (Nat → Nat → Int32) × (Nat → Nat → Int64) × zz_F)) (l1 : Int32) (I : Nat → Nat → Int32) (J : Nat → Nat → Int64) (F : zz_F) : Option (Int32 × (Nat → Nat → Int32) × (Nat → Nat → Int64) × zz_F) := if (zv_X12_fine I) = 0 then (some (0, I, J, F)) else ((zf_X12_here N  I J F).bind fun r1 => if r1.1 = l1 then (some (1, zz_u r1.2.1 52 11 ((r1.2.1 52 11) + 1), r1.2.2.1, r1.2.2.2)) else (some (0, r1.2.1, r1.2.2.1, r1.2.2.2)))
def zl_X12_passes (N : Nat) : Nat → Nat → Int32 → (Nat → Nat → Int32) → (Nat → Nat → Int64) → zz_F → Option (Int32 × (Nat → Nat → Int32) × (Nat → Nat → Int64) × zz_F)
  | 0 => fun _ _ _ _ _ => none
  | n + 1 => fun pc l1 I J F => if pc = 0 then zb_X12_passes_0 N (zl_X12_passes N n) l1 I J F else none
theorem ze_X12_passes_0 (N : Nat) (n : Nat) (l1 : Int32) (I : Nat → Nat → Int32) (J : Nat → Nat → Int64) (F : zz_F) : zl_X12_passes N (n+1) 0 l1 I J F = zb_X12_passes_0 N (zl_X12_passes N n) l1 I J F := by
  show (if 0 = 0 then zb_X12_passes_0 N (zl_X12_passes N n) l1 I J F else none) = _
  rw [if_pos rfl]
def zf_X12_passes (N : Nat) (l1 : Int32) (I : Nat → Nat → Int32) (J : Nat → Nat → Int64) (F : zz_F) : Option (Int32 × (Nat → Nat → Int32) × (Nat → Nat → Int64) × zz_F) := zl_X12_passes N N 0 l1 I J F
theorem zq_X12_passes (d N : Nat) : ∀ n : Nat, (∀ (l1 : Int32) (I : Nat → Nat → Int32) (J : Nat → Nat → Int64) (F : zz_F) (r : Int32 × (Nat → Nat → Int32) × (Nat → Nat → Int64) × zz_F), zl_X12_passes N n 0 l1 I J F = some r → zz_run (d+1) 216 0 [some (.ref 52), some (.int l1)] [] (zz_S F I J) (some (.int r.1)) (zz_S (r.2.2.2) (r.2.1) (r.2.2.1))) := by
  intro n
  induction n with
  | zero => exact fun _ _ _ _ _ h => zz_no h
  | succ n ih =>
    have ih0 := ih
    skip
    · intro l1 I J F r hr
      rw [ze_X12_passes_0] at hr
      unfold zb_X12_passes_0 at hr
      refine zs_216_0 ?_
      refine And.intro (rfl) (And.intro (Nat.le_of_ble_eq_true rfl) (And.intro (Nat.le_of_ble_eq_true rfl) (And.intro (Nat.le_of_ble_eq_true rfl) ?_)))
      refine Exists.intro _ (Exists.intro _ (And.intro (zr_X12_fine F I J d ) ?_))
      refine And.intro (fun (h1 : (zv_X12_fine I) = 0) => ?_) (fun (h1 : ¬ ((zv_X12_fine I) = 0)) => ?_)
      · rw [if_pos h1] at hr
        show zz_run _ 216 15 [some (.ref 52), some (.int l1)] [] (zz_S F I J) _ _
        refine zs_216_15 ?_
        replace hr := Option.some.inj hr
        subst hr
        exact And.intro rfl (And.intro rfl rfl)
      · rw [if_neg h1] at hr
        refine And.intro (rfl) (And.intro (Nat.le_of_ble_eq_true rfl) (And.intro (Nat.le_of_ble_eq_true rfl) (And.intro (Nat.le_of_ble_eq_true rfl) ?_)))
        obtain ⟨r1, cr1, hr⟩ := Option.bind_eq_some_iff.mp hr
        refine Exists.intro _ (Exists.intro _ (And.intro (zr_X12_here d N  I J F r1 cr1) ?_))
        refine And.intro (fun (h2 : r1.1 = l1) => ?_) (fun (h2 : ¬ (r1.1 = l1)) => ?_)
        · rw [if_pos h2] at hr
          show zz_run _ 216 17 [some (.ref 52), some (.int l1)] [] (zz_S r1.2.2.2 r1.2.1 r1.2.2.1) _ _
          refine zs_216_17 ?_
          refine And.intro (rfl) (And.intro (rfl) (And.intro (rfl) (And.intro (rfl) (And.intro (And.intro rfl rfl) ?_))))
          replace hr := Option.some.inj hr
          subst hr
          exact And.intro rfl (And.intro rfl rfl)
        · rw [if_neg h2] at hr
          show zz_run _ 216 15 [some (.ref 52), some (.int l1)] [] (zz_S r1.2.2.2 r1.2.1 r1.2.2.1) _ _
          refine zs_216_15 ?_
          replace hr := Option.some.inj hr
          subst hr
          exact And.intro rfl (And.intro rfl rfl)
theorem zr_X12_passes (d N : Nat) (l1 : Int32) (I : Nat → Nat → Int32) (J : Nat → Nat → Int64) (F : zz_F) (r : Int32 × (Nat → Nat → Int32) × (Nat → Nat → Int64) × zz_F) (h : zf_X12_passes N l1 I J F = some r) : zz_run (d+1) 216 0 [some (.ref 52), some (.int l1)] [] (zz_S F I J) (some (.int r.1)) (zz_S (r.2.2.2) (r.2.1) (r.2.2.1)) := (zq_X12_passes d N N) l1 I J F r h
def zb_X12_need_0 (N : Nat) (rec : Nat → Int32 → (Nat → Nat → Int32) → (Nat → Nat → Int64) → zz_F → Option (Int32 × (Nat → Nat → Int32) × (Nat → Nat → Int64) × zz_F)) (l1 : Int32) (I : Nat → Nat → Int32) (J : Nat → Nat → Int64) (F : zz_F) : Option (Int32 × (Nat → Nat → Int32) × (Nat → Nat → Int64) × zz_F) := (zf_X12_passes N l1 I J F).bind fun r1 => if ¬ r1.1 = 0 then (some (0, r1.2.1, r1.2.2.1, r1.2.2.2)) else (some (0, zw_X12_fault r1.2.1 (r1.2.1 52 11), r1.2.2.1, r1.2.2.2))
def zl_X12_need (N : Nat) : Nat → Nat → Int32 → (Nat → Nat → Int32) → (Nat → Nat → Int64) → zz_F → Option (Int32 × (Nat → Nat → Int32) × (Nat → Nat → Int64) × zz_F)
  | 0 => fun _ _ _ _ _ => none
  | n + 1 => fun pc l1 I J F => if pc = 0 then zb_X12_need_0 N (zl_X12_need N n) l1 I J F else none
theorem ze_X12_need_0 (N : Nat) (n : Nat) (l1 : Int32) (I : Nat → Nat → Int32) (J : Nat → Nat → Int64) (F : zz_F) : zl_X12_need N (n+1) 0 l1 I J F = zb_X12_need_0 N (zl_X12_need N n) l1 I J F := by
  show (if 0 = 0 then zb_X12_need_0 N (zl_X12_need N n) l1 I J F else none) = _
  rw [if_pos rfl]
def zf_X12_need (N : Nat) (l1 : Int32) (I : Nat → Nat → Int32) (J : Nat → Nat → Int64) (F : zz_F) : Option (Int32 × (Nat → Nat → Int32) × (Nat → Nat → Int64) × zz_F) := zl_X12_need N N 0 l1 I J F
theorem zq_X12_need (d N : Nat) : ∀ n : Nat, (∀ (l1 : Int32) (I : Nat → Nat → Int32) (J : Nat → Nat → Int64) (F : zz_F) (r : Int32 × (Nat → Nat → Int32) × (Nat → Nat → Int64) × zz_F), zl_X12_need N n 0 l1 I J F = some r → zz_run (d+2) 217 0 [some (.ref 52), some (.int l1)] [] (zz_S F I J) none (zz_S (r.2.2.2) (r.2.1) (r.2.2.1))) := by
  intro n
  induction n with
  | zero => exact fun _ _ _ _ _ h => zz_no h
  | succ n ih =>
    have ih0 := ih
    skip
    · intro l1 I J F r hr
      rw [ze_X12_need_0] at hr
      unfold zb_X12_need_0 at hr
      refine zs_217_0 ?_
      refine And.intro (rfl) (And.intro (Nat.le_of_ble_eq_true rfl) (And.intro (Nat.le_of_ble_eq_true rfl) (And.intro (Nat.le_of_ble_eq_true rfl) ?_)))
      obtain ⟨r1, cr1, hr⟩ := Option.bind_eq_some_iff.mp hr
      refine Exists.intro _ (Exists.intro _ (And.intro (zr_X12_passes d N l1 I J F r1 cr1) ?_))
      refine And.intro (fun (h1 : ¬ r1.1 = 0) => ?_) (fun (h1 : ¬ (¬ r1.1 = 0)) => ?_)
      · rw [if_pos h1] at hr
        show zz_run _ 217 16 [some (.ref 52), some (.int l1)] [] (zz_S r1.2.2.2 r1.2.1 r1.2.2.1) _ _
        refine zs_217_16 ?_
        replace hr := Option.some.inj hr
        subst hr
        exact And.intro rfl (And.intro rfl rfl)
      · rw [if_neg h1] at hr
        refine And.intro (rfl) (And.intro (rfl) (And.intro (Nat.le_of_ble_eq_true rfl) (And.intro (Nat.le_of_ble_eq_true rfl) (And.intro (Nat.le_of_ble_eq_true rfl) ?_))))
        refine Exists.intro _ (Exists.intro _ (And.intro (zr_X12_fault r1.2.2.2 r1.2.1 r1.2.2.1 d (r1.2.1 52 11)) ?_))
        show zz_run _ 217 16 [some (.ref 52), some (.int l1)] [] (zz_S r1.2.2.2 (zw_X12_fault r1.2.1 (r1.2.1 52 11)) r1.2.2.1) _ _
        refine zs_217_16 ?_
        replace hr := Option.some.inj hr
        subst hr
        exact And.intro rfl (And.intro rfl rfl)
theorem zr_X12_need (d N : Nat) (l1 : Int32) (I : Nat → Nat → Int32) (J : Nat → Nat → Int64) (F : zz_F) (r : Int32 × (Nat → Nat → Int32) × (Nat → Nat → Int64) × zz_F) (h : zf_X12_need N l1 I J F = some r) : zz_run (d+2) 217 0 [some (.ref 52), some (.int l1)] [] (zz_S F I J) none (zz_S (r.2.2.2) (r.2.1) (r.2.2.1)) := (zq_X12_need d N N) l1 I J F r h
def zb_X12_oneOf_0 (N : Nat) (rec : Nat → Int32 → Int32 → (Nat → Nat → Int32) → (Nat → Nat → Int64) → zz_F → Option (Int32 × (Nat → Nat → Int32) × (Nat → Nat → Int64) × zz_F)) (l1 : Int32) (l2 : Int32) (I : Nat → Nat → Int32) (J : Nat → Nat → Int64) (F : zz_F) : Option (Int32 × (Nat → Nat → Int32) × (Nat → Nat → Int64) × zz_F) := if ¬ (zv_X12_fine I) = 0 then ((zf_X12_here N  I J F).bind fun r1 => if ¬ (zv_X12_in r1.1 l1 ((l1 + l2) - 1)) = 0 then (if zz_re r1.2.2.2 = some ((zz_re r1.2.2.2).getD 0) then (if zz_XK r1.2.2.2.2.2.1 ((zz_re r1.2.2.2).getD 0) = 12 then (if ¬ ((((r1.2.1 52 11) + 1) - 1) < 0 ∨ (zz_XL r1.2.2.2.2.2.2.2.1 r1.2.2.2.2.2.2.1 ((zz_re r1.2.2.2).getD 0)) ≤ (((r1.2.1 52 11) + 1) - 1).toNatClampNeg) then (some (((zz_u r1.2.1 52 11 ((r1.2.1 52 11) + 1)) ((zz_re r1.2.2.2).getD 0) ((((r1.2.1 52 11) + 1) - 1).toNatClampNeg)) - l1, zz_u r1.2.1 52 11 ((r1.2.1 52 11) + 1), r1.2.2.1, r1.2.2.2)) else none) else none) else none) else (some (0, zw_X12_fault r1.2.1 (r1.2.1 52 11), r1.2.2.1, r1.2.2.2))) else (some (0, I, J, F))
def zl_X12_oneOf (N : Nat) : Nat → Nat → Int32 → Int32 → (Nat → Nat → Int32) → (Nat → Nat → Int64) → zz_F → Option (Int32 × (Nat → Nat → Int32) × (Nat → Nat → Int64) × zz_F)
  | 0 => fun _ _ _ _ _ _ => none
  | n + 1 => fun pc l1 l2 I J F => if pc = 0 then zb_X12_oneOf_0 N (zl_X12_oneOf N n) l1 l2 I J F else none
theorem ze_X12_oneOf_0 (N : Nat) (n : Nat) (l1 : Int32) (l2 : Int32) (I : Nat → Nat → Int32) (J : Nat → Nat → Int64) (F : zz_F) : zl_X12_oneOf N (n+1) 0 l1 l2 I J F = zb_X12_oneOf_0 N (zl_X12_oneOf N n) l1 l2 I J F := by
  show (if 0 = 0 then zb_X12_oneOf_0 N (zl_X12_oneOf N n) l1 l2 I J F else none) = _
  rw [if_pos rfl]
def zf_X12_oneOf (N : Nat) (l1 : Int32) (l2 : Int32) (I : Nat → Nat → Int32) (J : Nat → Nat → Int64) (F : zz_F) : Option (Int32 × (Nat → Nat → Int32) × (Nat → Nat → Int64) × zz_F) := zl_X12_oneOf N N 0 l1 l2 I J F
theorem zq_X12_oneOf (d N : Nat) : ∀ n : Nat, (∀ (l1 : Int32) (l2 : Int32) (I : Nat → Nat → Int32) (J : Nat → Nat → Int64) (F : zz_F) (r : Int32 × (Nat → Nat → Int32) × (Nat → Nat → Int64) × zz_F), zl_X12_oneOf N n 0 l1 l2 I J F = some r → zz_run (d+2) 218 0 [some (.ref 52), some (.int l1), some (.int l2)] [] (zz_S F I J) (some (.int r.1)) (zz_S (r.2.2.2) (r.2.1) (r.2.2.1))) := by
  intro n
  induction n with
  | zero => exact fun _ _ _ _ _ _ h => zz_no h
  | succ n ih =>
    have ih0 := ih
    skip
    · intro l1 l2 I J F r hr
      rw [ze_X12_oneOf_0] at hr
      unfold zb_X12_oneOf_0 at hr
      refine zs_218_0 ?_
      refine And.intro (rfl) (And.intro (Nat.le_of_ble_eq_true rfl) (And.intro (Nat.le_of_ble_eq_true rfl) (And.intro (Nat.le_of_ble_eq_true rfl) ?_)))
      refine Exists.intro _ (Exists.intro _ (And.intro (zr_X12_fine F I J (d+1) ) ?_))
      refine And.intro (fun (h1 : ¬ (zv_X12_fine I) = 0) => ?_) (fun (h1 : ¬ (¬ (zv_X12_fine I) = 0)) => ?_)
      · rw [if_pos h1] at hr
        show zz_run _ 218 9 [some (.ref 52), some (.int l1), some (.int l2)] [] (zz_S F I J) _ _
        refine zs_218_9 ?_
        refine And.intro (rfl) (And.intro (Nat.le_of_ble_eq_true rfl) (And.intro (Nat.le_of_ble_eq_true rfl) (And.intro (Nat.le_of_ble_eq_true rfl) ?_)))
        obtain ⟨r1, cr1, hr⟩ := Option.bind_eq_some_iff.mp hr
        refine Exists.intro _ (Exists.intro _ (And.intro (zr_X12_here (d+1) N  I J F r1 cr1) ?_))
        refine And.intro (Nat.le_of_ble_eq_true rfl) (And.intro (Nat.le_of_ble_eq_true rfl) (And.intro (Nat.le_of_ble_eq_true rfl) ?_))
        refine Exists.intro _ (Exists.intro _ (And.intro (zr_X12_in r1.2.2.2 r1.2.1 r1.2.2.1 (d+1) r1.1 l1 ((l1 + l2) - 1)) ?_))
        refine And.intro (fun (h2 : ¬ (zv_X12_in r1.1 l1 ((l1 + l2) - 1)) = 0) => ?_) (fun (h2 : ¬ (¬ (zv_X12_in r1.1 l1 ((l1 + l2) - 1)) = 0)) => ?_)
        · rw [if_pos h2] at hr
          show zz_run _ 218 35 [some (.ref 52), some (.int l1), some (.int l2)] [] (zz_S r1.2.2.2 r1.2.1 r1.2.2.1) _ _
          refine zs_218_35 ?_
          refine And.intro (rfl) (And.intro (rfl) (And.intro (rfl) (And.intro (rfl) (And.intro (And.intro rfl rfl) (And.intro (rfl) ?_)))))
          have g2 : zz_re r1.2.2.2 = some ((zz_re r1.2.2.2).getD 0) := zz_g hr
          replace hr := zz_gt hr
          refine zz_rvs g2 ?_
          refine And.intro (rfl) ?_
          have g3 : zz_XK r1.2.2.2.2.2.1 ((zz_re r1.2.2.2).getD 0) = 12 := zz_g hr
          replace hr := zz_gt hr
          refine And.intro (Or.inl g3) ?_
          have g4 : ¬ ((((r1.2.1 52 11) + 1) - 1) < 0 ∨ (zz_XL r1.2.2.2.2.2.2.2.1 r1.2.2.2.2.2.2.1 ((zz_re r1.2.2.2).getD 0)) ≤ (((r1.2.1 52 11) + 1) - 1).toNatClampNeg) := zz_g hr
          replace hr := zz_gt hr
          refine And.intro (g4) ?_
          replace hr := Option.some.inj hr
          subst hr
          exact And.intro rfl (And.intro rfl rfl)
        · rw [if_neg h2] at hr
          refine And.intro (rfl) (And.intro (rfl) (And.intro (Nat.le_of_ble_eq_true rfl) (And.intro (Nat.le_of_ble_eq_true rfl) (And.intro (Nat.le_of_ble_eq_true rfl) ?_))))
          refine Exists.intro _ (Exists.intro _ (And.intro (zr_X12_fault r1.2.2.2 r1.2.1 r1.2.2.1 d (r1.2.1 52 11)) ?_))
          replace hr := Option.some.inj hr
          subst hr
          exact And.intro rfl (And.intro rfl rfl)
      · rw [if_neg h1] at hr
        replace hr := Option.some.inj hr
        subst hr
        exact And.intro rfl (And.intro rfl rfl)
theorem zr_X12_oneOf (d N : Nat) (l1 : Int32) (l2 : Int32) (I : Nat → Nat → Int32) (J : Nat → Nat → Int64) (F : zz_F) (r : Int32 × (Nat → Nat → Int32) × (Nat → Nat → Int64) × zz_F) (h : zf_X12_oneOf N l1 l2 I J F = some r) : zz_run (d+2) 218 0 [some (.ref 52), some (.int l1), some (.int l2)] [] (zz_S F I J) (some (.int r.1)) (zz_S (r.2.2.2) (r.2.1) (r.2.2.1)) := (zq_X12_oneOf d N N) l1 l2 I J F r h
