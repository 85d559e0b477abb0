/-! printed by wip/whole/loop2.py -/
def zb_X10_mostBrought_0 (N : Nat) (rec : Nat → Int32 → Int32 → Int32 → Int32 → (Nat → Nat → Int32) → (Nat → Nat → Int64) → zz_F → Option (Int32 × (Nat → Nat → Int32) × (Nat → Nat → Int64) × zz_F)) (l1 : Int32) (l2 : Int32) (l3 : Int32) (l4 : Int32) (I : Nat → Nat → Int32) (J : Nat → Nat → Int64) (F : zz_F) : Option (Int32 × (Nat → Nat → Int32) × (Nat → Nat → Int64) × zz_F) := (zf_X10_gather N l1 I J).bind fun r1 => if zz_XK F.2.2.1 (zz_mo F) = 14 then (if ((1 : Int32) <<< (r1.1 &&& 31)) ≤ (nI (zz_XL F.2.2.2.2.1 F.2.2.2.1 (zz_mo F))) then (rec 26 l1 r1.1 ((1 : Int32) <<< (r1.1 &&& 31)) 0 r1.2.1 J F) else (if ¬ ((1 : Int32) <<< (r1.1 &&& 31)) < 0 then (if ((1 : Int32) <<< (r1.1 &&& 31)).toNatClampNeg ≤ 8192 then (if 82 ≤ F.1 then (rec 26 l1 r1.1 ((1 : Int32) <<< (r1.1 &&& 31)) 0 (va_up r1.2.1 (F.1 + 2) (fun _ => 0)) (va_up J (F.1 + 2) (fun _ => 0)) (zz_Fmo (zz_Fnew F (((1 : Int32) <<< (r1.1 &&& 31)).toNatClampNeg)) (F.1 + 2))) else none) else none) else none)) else none
def zb_X10_mostBrought_26 (N : Nat) (rec : Nat → Int32 → Int32 → Int32 → Int32 → (Nat → Nat → Int32) → (Nat → Nat → Int64) → zz_F → Option (Int32 × (Nat → Nat → Int32) × (Nat → Nat → Int64) × zz_F)) (l1 : Int32) (l2 : Int32) (l3 : Int32) (l4 : Int32) (I : Nat → Nat → Int32) (J : Nat → Nat → Int64) (F : zz_F) : Option (Int32 × (Nat → Nat → Int32) × (Nat → Nat → Int64) × zz_F) := rec 29 l1 l2 l3 0 I J F
def zb_X10_mostBrought_29 (N : Nat) (rec : Nat → Int32 → Int32 → Int32 → Int32 → (Nat → Nat → Int32) → (Nat → Nat → Int64) → zz_F → Option (Int32 × (Nat → Nat → Int32) × (Nat → Nat → Int64) × zz_F)) (l1 : Int32) (l2 : Int32) (l3 : Int32) (l4 : Int32) (I : Nat → Nat → Int32) (J : Nat → Nat → Int64) (F : zz_F) : Option (Int32 × (Nat → Nat → Int32) × (Nat → Nat → Int64) × zz_F) := if l3 ≤ l4 then (rec 59 l1 l2 l3 0 I J F) else (if zz_XK F.2.2.1 (zz_mo F) = 14 then (if (nI (zz_XL F.2.2.2.2.1 F.2.2.2.1 (zz_mo F))) ≤ l4 then (rec 59 l1 l2 l3 0 I J F) else (if ¬ (l4 < 0 ∨ (zz_XL F.2.2.2.2.1 F.2.2.2.1 (zz_mo F)) ≤ l4.toNatClampNeg) then (rec 29 l1 l2 l3 (l4 + 1) (zz_u I (zz_mo F) l4.toNatClampNeg 0) J F) else none)) else none)
def zb_X10_mostBrought_59 (N : Nat) (rec : Nat → Int32 → Int32 → Int32 → Int32 → (Nat → Nat → Int32) → (Nat → Nat → Int64) → zz_F → Option (Int32 × (Nat → Nat → Int32) × (Nat → Nat → Int64) × zz_F)) (l1 : Int32) (l2 : Int32) (l3 : Int32) (l4 : Int32) (I : Nat → Nat → Int32) (J : Nat → Nat → Int64) (F : zz_F) : Option (Int32 × (Nat → Nat → Int32) × (Nat → Nat → Int64) × zz_F) := rec 62 l1 l2 l3 0 I J F
def zb_X10_mostBrought_62 (N : Nat) (rec : Nat → Int32 → Int32 → Int32 → Int32 → (Nat → Nat → Int32) → (Nat → Nat → Int64) → zz_F → Option (Int32 × (Nat → Nat → Int32) × (Nat → Nat → Int64) × zz_F)) (l1 : Int32) (l2 : Int32) (l3 : Int32) (l4 : Int32) (I : Nat → Nat → Int32) (J : Nat → Nat → Int64) (F : zz_F) : Option (Int32 × (Nat → Nat → Int32) × (Nat → Nat → Int64) × zz_F) := if l3 ≤ l4 then (if zz_XK F.2.2.1 (zz_mo F) = 14 then (if (nI (zz_XL F.2.2.2.2.1 F.2.2.2.1 (zz_mo F))) ≤ (l3 - 1) then (some (0, I, J, F)) else (if ¬ ((l3 - 1) < 0 ∨ (zz_XL F.2.2.2.2.1 F.2.2.2.1 (zz_mo F)) ≤ (l3 - 1).toNatClampNeg) then (some (I (zz_mo F) ((l3 - 1).toNatClampNeg), I, J, F)) else none)) else none) else ((zf_X10_toldBy N l4 l2 I J).bind fun r10 => (zf_X10_spread N l4 l2 ((zz_kn I l1) ||| r10.1) I J F).bind fun r11 => rec 62 l1 l2 l3 (l4 + 1) r11.2.1 r11.2.2.1 r11.2.2.2)
def zl_X10_mostBrought (N : Nat) : Nat → Nat → Int32 → Int32 → Int32 → Int32 → (Nat → Nat → Int32) → (Nat → Nat → Int64) → zz_F → Option (Int32 × (Nat → Nat → Int32) × (Nat → Nat → Int64) × zz_F)
  | 0 => fun _ _ _ _ _ _ _ _ => none
  | n + 1 => fun pc l1 l2 l3 l4 I J F => if pc = 0 then zb_X10_mostBrought_0 N (zl_X10_mostBrought N n) l1 l2 l3 l4 I J F else (if pc = 26 then zb_X10_mostBrought_26 N (zl_X10_mostBrought N n) l1 l2 l3 l4 I J F else (if pc = 29 then zb_X10_mostBrought_29 N (zl_X10_mostBrought N n) l1 l2 l3 l4 I J F else (if pc = 59 then zb_X10_mostBrought_59 N (zl_X10_mostBrought N n) l1 l2 l3 l4 I J F else (if pc = 62 then zb_X10_mostBrought_62 N (zl_X10_mostBrought N n) l1 l2 l3 l4 I J F else none))))
theorem ze_X10_mostBrought_0 (N : Nat) (n : Nat) (l1 : Int32) (l2 : Int32) (l3 : Int32) (l4 : Int32) (I : Nat → Nat → Int32) (J : Nat → Nat → Int64) (F : zz_F) : zl_X10_mostBrought N (n+1) 0 l1 l2 l3 l4 I J F = zb_X10_mostBrought_0 N (zl_X10_mostBrought N n) l1 l2 l3 l4 I J F := by
  show (if 0 = 0 then zb_X10_mostBrought_0 N (zl_X10_mostBrought N n) l1 l2 l3 l4 I J F else (if 0 = 26 then zb_X10_mostBrought_26 N (zl_X10_mostBrought N n) l1 l2 l3 l4 I J F else (if 0 = 29 then zb_X10_mostBrought_29 N (zl_X10_mostBrought N n) l1 l2 l3 l4 I J F else (if 0 = 59 then zb_X10_mostBrought_59 N (zl_X10_mostBrought N n) l1 l2 l3 l4 I J F else (if 0 = 62 then zb_X10_mostBrought_62 N (zl_X10_mostBrought N n) l1 l2 l3 l4 I J F else none))))) = _
  rw [if_pos rfl]
theorem ze_X10_mostBrought_26 (N : Nat) (n : Nat) (l1 : Int32) (l2 : Int32) (l3 : Int32) (l4 : Int32) (I : Nat → Nat → Int32) (J : Nat → Nat → Int64) (F : zz_F) : zl_X10_mostBrought N (n+1) 26 l1 l2 l3 l4 I J F = zb_X10_mostBrought_26 N (zl_X10_mostBrought N n) l1 l2 l3 l4 I J F := by
  show (if 26 = 0 then zb_X10_mostBrought_0 N (zl_X10_mostBrought N n) l1 l2 l3 l4 I J F else (if 26 = 26 then zb_X10_mostBrought_26 N (zl_X10_mostBrought N n) l1 l2 l3 l4 I J F else (if 26 = 29 then zb_X10_mostBrought_29 N (zl_X10_mostBrought N n) l1 l2 l3 l4 I J F else (if 26 = 59 then zb_X10_mostBrought_59 N (zl_X10_mostBrought N n) l1 l2 l3 l4 I J F else (if 26 = 62 then zb_X10_mostBrought_62 N (zl_X10_mostBrought N n) l1 l2 l3 l4 I J F else none))))) = _
  rw [if_neg (by decide), if_pos rfl]
theorem ze_X10_mostBrought_29 (N : Nat) (n : Nat) (l1 : Int32) (l2 : Int32) (l3 : Int32) (l4 : Int32) (I : Nat → Nat → Int32) (J : Nat → Nat → Int64) (F : zz_F) : zl_X10_mostBrought N (n+1) 29 l1 l2 l3 l4 I J F = zb_X10_mostBrought_29 N (zl_X10_mostBrought N n) l1 l2 l3 l4 I J F := by
  show (if 29 = 0 then zb_X10_mostBrought_0 N (zl_X10_mostBrought N n) l1 l2 l3 l4 I J F else (if 29 = 26 then zb_X10_mostBrought_26 N (zl_X10_mostBrought N n) l1 l2 l3 l4 I J F else (if 29 = 29 then zb_X10_mostBrought_29 N (zl_X10_mostBrought N n) l1 l2 l3 l4 I J F else (if 29 = 59 then zb_X10_mostBrought_59 N (zl_X10_mostBrought N n) l1 l2 l3 l4 I J F else (if 29 = 62 then zb_X10_mostBrought_62 N (zl_X10_mostBrought N n) l1 l2 l3 l4 I J F else none))))) = _
  rw [if_neg (by decide), if_neg (by decide), if_pos rfl]
theorem ze_X10_mostBrought_59 (N : Nat) (n : Nat) (l1 : Int32) (l2 : Int32) (l3 : Int32) (l4 : Int32) (I : Nat → Nat → Int32) (J : Nat → Nat → Int64) (F : zz_F) : zl_X10_mostBrought N (n+1) 59 l1 l2 l3 l4 I J F = zb_X10_mostBrought_59 N (zl_X10_mostBrought N n) l1 l2 l3 l4 I J F := by
  show (if 59 = 0 then zb_X10_mostBrought_0 N (zl_X10_mostBrought N n) l1 l2 l3 l4 I J F else (if 59 = 26 then zb_X10_mostBrought_26 N (zl_X10_mostBrought N n) l1 l2 l3 l4 I J F else (if 59 = 29 then zb_X10_mostBrought_29 N (zl_X10_mostBrought N n) l1 l2 l3 l4 I J F else (if 59 = 59 then zb_X10_mostBrought_59 N (zl_X10_mostBrought N n) l1 l2 l3 l4 I J F else (if 59 = 62 then zb_X10_mostBrought_62 N (zl_X10_mostBrought N n) l1 l2 l3 l4 I J F else none))))) = _
  rw [if_neg (by decide), if_neg (by decide), if_neg (by decide), if_pos rfl]
theorem ze_X10_mostBrought_62 (N : Nat) (n : Nat) (l1 : Int32) (l2 : Int32) (l3 : Int32) (l4 : Int32) (I : Nat → Nat → Int32) (J : Nat → Nat → Int64) (F : zz_F) : zl_X10_mostBrought N (n+1) 62 l1 l2 l3 l4 I J F = zb_X10_mostBrought_62 N (zl_X10_mostBrought N n) l1 l2 l3 l4 I J F := by
  show (if 62 = 0 then zb_X10_mostBrought_0 N (zl_X10_mostBrought N n) l1 l2 l3 l4 I J F else (if 62 = 26 then zb_X10_mostBrought_26 N (zl_X10_mostBrought N n) l1 l2 l3 l4 I J F else (if 62 = 29 then zb_X10_mostBrought_29 N (zl_X10_mostBrought N n) l1 l2 l3 l4 I J F else (if 62 = 59 then zb_X10_mostBrought_59 N (zl_X10_mostBrought N n) l1 l2 l3 l4 I J F else (if 62 = 62 then zb_X10_mostBrought_62 N (zl_X10_mostBrought N n) l1 l2 l3 l4 I J F else none))))) = _
  rw [if_neg (by decide), if_neg (by decide), if_neg (by decide), if_neg (by decide), if_pos rfl]
def zf_X10_mostBrought (N : Nat) (l1 : Int32) (I : Nat → Nat → Int32) (J : Nat → Nat → Int64) (F : zz_F) : Option (Int32 × (Nat → Nat → Int32) × (Nat → Nat → Int64) × zz_F) := zl_X10_mostBrought N N 0 l1 0 0 0 I J F
theorem zq_X10_mostBrought (d N : Nat) : ∀ n : Nat, (∀ (l1 : Int32) (l2 : Int32) (l3 : Int32) (l4 : Int32) (I : Nat → Nat → Int32) (J : Nat → Nat → Int64) (F : zz_F) (r : Int32 × (Nat → Nat → Int32) × (Nat → Nat → Int64) × zz_F), zl_X10_mostBrought N n 0 l1 l2 l3 l4 I J F = some r → zz_run (d+4) 130 0 [some (.ref 46), some (.int l1), none, none, none] [] (zz_S F I J) (some (.int r.1)) (zz_S (r.2.2.2) (r.2.1) (r.2.2.1))) ∧ (∀ (l1 : Int32) (l2 : Int32) (l3 : Int32) (l4 : Int32) (I : Nat → Nat → Int32) (J : Nat → Nat → Int64) (F : zz_F) (r : Int32 × (Nat → Nat → Int32) × (Nat → Nat → Int64) × zz_F), zl_X10_mostBrought N n 26 l1 l2 l3 l4 I J F = some r → zz_run (d+4) 130 26 [some (.ref 46), some (.int l1), some (.int l2), some (.int l3), none] [] (zz_S F I J) (some (.int r.1)) (zz_S (r.2.2.2) (r.2.1) (r.2.2.1))) ∧ (∀ (l1 : Int32) (l2 : Int32) (l3 : Int32) (l4 : Int32) (I : Nat → Nat → Int32) (J : Nat → Nat → Int64) (F : zz_F) (r : Int32 × (Nat → Nat → Int32) × (Nat → Nat → Int64) × zz_F), zl_X10_mostBrought N n 29 l1 l2 l3 l4 I J F = some r → zz_run (d+4) 130 29 [some (.ref 46), some (.int l1), some (.int l2), some (.int l3), some (.int l4)] [] (zz_S F I J) (some (.int r.1)) (zz_S (r.2.2.2) (r.2.1) (r.2.2.1))) ∧ (∀ (l1 : Int32) (l2 : Int32) (l3 : Int32) (l4 : Int32) (I : Nat → Nat → Int32) (J : Nat → Nat → Int64) (F : zz_F) (r : Int32 × (Nat → Nat → Int32) × (Nat → Nat → Int64) × zz_F), zl_X10_mostBrought N n 59 l1 l2 l3 l4 I J F = some r → zz_run (d+4) 130 59 [some (.ref 46), some (.int l1), some (.int l2), some (.int l3), none] [] (zz_S F I J) (some (.int r.1)) (zz_S (r.2.2.2) (r.2.1) (r.2.2.1))) ∧ (∀ (l1 : Int32) (l2 : Int32) (l3 : Int32) (l4 : Int32) (I : Nat → Nat → Int32) (J : Nat → Nat → Int64) (F : zz_F) (r : Int32 × (Nat → Nat → Int32) × (Nat → Nat → Int64) × zz_F), zl_X10_mostBrought N n 62 l1 l2 l3 l4 I J F = some r → zz_run (d+4) 130 62 [some (.ref 46), some (.int l1), some (.int l2), some (.int l3), some (.int l4)] [] (zz_S F I J) (some (.int r.1)) (zz_S (r.2.2.2) (r.2.1) (r.2.2.1))) := by
  intro n
  induction n with
  | zero => exact ⟨fun _ _ _ _ _ _ _ _ h => zz_no h, fun _ _ _ _ _ _ _ _ h => zz_no h, fun _ _ _ _ _ _ _ _ h => zz_no h, fun _ _ _ _ _ _ _ _ h => zz_no h, fun _ _ _ _ _ _ _ _ h => zz_no h⟩
  | succ n ih =>
    obtain ⟨ih0, ih26, ih29, ih59, ih62⟩ := ih
    refine ⟨?_, ?_, ?_, ?_, ?_⟩
    · intro l1 l2 l3 l4 I J F r hr
      rw [ze_X10_mostBrought_0] at hr
      unfold zb_X10_mostBrought_0 at hr
      refine zs_130_0 ?_
      refine And.intro (rfl) (And.intro (Nat.le_of_ble_eq_true rfl) (And.intro (Nat.le_of_ble_eq_true rfl) (And.intro (Nat.le_of_ble_eq_true rfl) ?_)))
      obtain ⟨r1, cr1, hr⟩ := Option.bind_eq_some_iff.mp hr
      refine Exists.intro _ (Exists.intro _ (And.intro (zr_X10_gather F I J (d+2) N l1 r1 cr1) ?_))
      refine And.intro (rfl) ?_
      have g2 : zz_XK F.2.2.1 (zz_mo F) = 14 := zz_g hr
      replace hr := zz_gt hr
      refine And.intro (zz_len1 g2) (And.intro (zz_len2 g2) (And.intro (fun (h1 : ((1 : Int32) <<< (r1.1 &&& 31)) ≤ (nI (zz_XL F.2.2.2.2.1 F.2.2.2.1 (zz_mo F)))) => ?_) (fun (h1 : ¬ (((1 : Int32) <<< (r1.1 &&& 31)) ≤ (nI (zz_XL F.2.2.2.2.1 F.2.2.2.1 (zz_mo F))))) => ?_)))
      · rw [if_pos h1] at hr
        exact zz_wk [true, true, true, true, false] rfl (ih26 _ _ _ _ _ _ _ _ hr)
      · rw [if_neg h1] at hr
        have g3 : ¬ ((1 : Int32) <<< (r1.1 &&& 31)) < 0 := zz_g hr
        replace hr := zz_gt hr
        have g4 : ((1 : Int32) <<< (r1.1 &&& 31)).toNatClampNeg ≤ 8192 := zz_g hr
        replace hr := zz_gt hr
        have g5 : 82 ≤ F.1 := zz_g hr
        replace hr := zz_gt hr
        refine And.intro (g3) (And.intro (g4) ?_)
        refine zz_kS (zz_pnew F r1.2.1 J ((1 : Int32) <<< (r1.1 &&& 31)).toNatClampNeg g5) ?_
        refine And.intro (rfl) (And.intro (rfl) ?_)
        refine zz_kSr (zz_pRmo (zz_Fnew F (((1 : Int32) <<< (r1.1 &&& 31)).toNatClampNeg)) (va_up r1.2.1 (F.1 + 2) (fun _ => 0)) (va_up J (F.1 + 2) (fun _ => 0)) (F.1 + 2)) ?_
        exact zz_wk [true, true, true, true, false] rfl (ih26 _ _ _ _ _ _ _ _ hr)
    · intro l1 l2 l3 l4 I J F r hr
      rw [ze_X10_mostBrought_26] at hr
      unfold zb_X10_mostBrought_26 at hr
      refine zs_130_26 ?_
      exact zz_wk [true, true, true, true, true] rfl (ih29 _ _ _ _ _ _ _ _ hr)
    · intro l1 l2 l3 l4 I J F r hr
      rw [ze_X10_mostBrought_29] at hr
      unfold zb_X10_mostBrought_29 at hr
      refine zs_130_29 ?_
      refine And.intro (fun (h2 : l3 ≤ l4) => ?_) (fun (h2 : ¬ (l3 ≤ l4)) => ?_)
      · rw [if_pos h2] at hr
        exact zz_wk [true, true, true, true, false] rfl (ih59 _ _ _ _ _ _ _ _ hr)
      · rw [if_neg h2] at hr
        refine And.intro (rfl) ?_
        have g6 : zz_XK F.2.2.1 (zz_mo F) = 14 := zz_g hr
        replace hr := zz_gt hr
        refine And.intro (zz_len1 g6) (And.intro (zz_len2 g6) (And.intro (fun (h3 : (nI (zz_XL F.2.2.2.2.1 F.2.2.2.1 (zz_mo F))) ≤ l4) => ?_) (fun (h3 : ¬ ((nI (zz_XL F.2.2.2.2.1 F.2.2.2.1 (zz_mo F))) ≤ l4)) => ?_)))
        · rw [if_pos h3] at hr
          exact zz_wk [true, true, true, true, false] rfl (ih59 _ _ _ _ _ _ _ _ hr)
        · rw [if_neg h3] at hr
          refine And.intro (rfl) (And.intro (g6) ?_)
          have g7 : ¬ (l4 < 0 ∨ (zz_XL F.2.2.2.2.1 F.2.2.2.1 (zz_mo F)) ≤ l4.toNatClampNeg) := zz_g hr
          replace hr := zz_gt hr
          refine And.intro (g7) ?_
          exact zz_wk [true, true, true, true, true] rfl (ih29 _ _ _ _ _ _ _ _ hr)
    · intro l1 l2 l3 l4 I J F r hr
      rw [ze_X10_mostBrought_59] at hr
      unfold zb_X10_mostBrought_59 at hr
      refine zs_130_59 ?_
      exact zz_wk [true, true, true, true, true] rfl (ih62 _ _ _ _ _ _ _ _ hr)
    · intro l1 l2 l3 l4 I J F r hr
      rw [ze_X10_mostBrought_62] at hr
      unfold zb_X10_mostBrought_62 at hr
      refine zs_130_62 ?_
      refine And.intro (fun (h4 : l3 ≤ l4) => ?_) (fun (h4 : ¬ (l3 ≤ l4)) => ?_)
      · rw [if_pos h4] at hr
        show zz_run _ 130 97 [some (.ref 46), some (.int l1), some (.int l2), some (.int l3), some (.int l4)] [] (zz_S F I J) _ _
        refine zs_130_97 ?_
        refine And.intro (rfl) ?_
        have g8 : zz_XK F.2.2.1 (zz_mo F) = 14 := zz_g hr
        replace hr := zz_gt hr
        refine And.intro (zz_len1 g8) (And.intro (zz_len2 g8) (And.intro (fun (h5 : (nI (zz_XL F.2.2.2.2.1 F.2.2.2.1 (zz_mo F))) ≤ (l3 - 1)) => ?_) (fun (h5 : ¬ ((nI (zz_XL F.2.2.2.2.1 F.2.2.2.1 (zz_mo F))) ≤ (l3 - 1))) => ?_)))
        · rw [if_pos h5] at hr
          show zz_run _ 130 122 [some (.ref 46), some (.int l1), some (.int l2), some (.int l3), some (.int (l3 - 1))] [] (zz_S F I J) _ _
          refine zs_130_122 ?_
          show zz_run _ 130 123 [some (.ref 46), some (.int l1), some (.int l2), some (.int l3), some (.int (l3 - 1))] [.int 0] (zz_S F I J) _ _
          refine zs_130_123 ?_
          replace hr := Option.some.inj hr
          subst hr
          exact And.intro rfl (And.intro rfl rfl)
        · rw [if_neg h5] at hr
          refine And.intro (rfl) (And.intro (Or.inl g8) ?_)
          have g9 : ¬ ((l3 - 1) < 0 ∨ (zz_XL F.2.2.2.2.1 F.2.2.2.1 (zz_mo F)) ≤ (l3 - 1).toNatClampNeg) := zz_g hr
          replace hr := zz_gt hr
          refine And.intro (g9) ?_
          show zz_run _ 130 123 [some (.ref 46), some (.int l1), some (.int l2), some (.int l3), some (.int (l3 - 1))] [.int (I (zz_mo F) ((l3 - 1).toNatClampNeg))] (zz_S F I J) _ _
          refine zs_130_123 ?_
          replace hr := Option.some.inj hr
          subst hr
          exact And.intro rfl (And.intro rfl rfl)
      · rw [if_neg h4] at hr
        refine And.intro (rfl) (And.intro (rfl) (And.intro (Nat.le_of_ble_eq_true rfl) (And.intro (Nat.le_of_ble_eq_true rfl) (And.intro (Nat.le_of_ble_eq_true rfl) ?_))))
        refine Exists.intro _ (Exists.intro _ (And.intro (zr_knownIn F I J (d+3) l1) ?_))
        refine And.intro (rfl) (And.intro (Nat.le_of_ble_eq_true rfl) (And.intro (Nat.le_of_ble_eq_true rfl) (And.intro (Nat.le_of_ble_eq_true rfl) ?_)))
        obtain ⟨r10, cr10, hr⟩ := Option.bind_eq_some_iff.mp hr
        refine Exists.intro _ (Exists.intro _ (And.intro (zr_X10_toldBy F I J (d+1) N l4 l2 r10 cr10) ?_))
        refine And.intro (rfl) (And.intro (Nat.le_of_ble_eq_true rfl) (And.intro (Nat.le_of_ble_eq_true rfl) (And.intro (Nat.le_of_ble_eq_true rfl) ?_)))
        obtain ⟨r11, cr11, hr⟩ := Option.bind_eq_some_iff.mp hr
        refine Exists.intro _ (Exists.intro _ (And.intro (zr_X10_spread d N l4 l2 ((zz_kn I l1) ||| r10.1) I J F r11 cr11) ?_))
        exact zz_wk [true, true, true, true, true] rfl (ih62 _ _ _ _ _ _ _ _ hr)
theorem zr_X10_mostBrought (d N : Nat) (l1 : Int32) (I : Nat → Nat → Int32) (J : Nat → Nat → Int64) (F : zz_F) (r : Int32 × (Nat → Nat → Int32) × (Nat → Nat → Int64) × zz_F) (h : zf_X10_mostBrought N l1 I J F = some r) : zz_run (d+4) 130 0 [some (.ref 46), some (.int l1), none, none, none] [] (zz_S F I J) (some (.int r.1)) (zz_S (r.2.2.2) (r.2.1) (r.2.2.1)) := (zq_X10_mostBrought d N N).1 l1 0 0 0 I J F r h
def zb_X11_sheet_0 (N : Nat) (rec : Nat → Int32 → Int32 → Int32 → Int32 → (Nat → Nat → Int32) → (Nat → Nat → Int64) → Option (Int32 × (Nat → Nat → Int32) × (Nat → Nat → Int64))) (l1 : Int32) (l2 : Int32) (l3 : Int32) (l4 : Int32) (I : Nat → Nat → Int32) (J : Nat → Nat → Int64) : Option (Int32 × (Nat → Nat → Int32) × (Nat → Nat → Int64)) := if l1 < 0 then (some ((-1), I, J)) else (if 3 < l1 then (some ((-1), I, J)) else (if l2 ≤ 12 then (if ¬ l1 = 3 then (if 0 ≤ l2 then ((zf_X11_setMinutes N l1 l2 l3 l4 I J).bind fun r1 => some (r1.1, r1.2.1, J)) else (some ((-2), I, J))) else ((zf_X11_setMinutes N 2 0 1 0 I J).bind fun r2 => some ((-3), r2.2.1, J))) else (some ((-1), I, J))))
def zl_X11_sheet (N : Nat) : Nat → Nat → Int32 → Int32 → Int32 → Int32 → (Nat → Nat → Int32) → (Nat → Nat → Int64) → Option (Int32 × (Nat → Nat → Int32) × (Nat → Nat → Int64))
  | 0 => fun _ _ _ _ _ _ _ => none
  | n + 1 => fun pc l1 l2 l3 l4 I J => if pc = 0 then zb_X11_sheet_0 N (zl_X11_sheet N n) l1 l2 l3 l4 I J else none
theorem ze_X11_sheet_0 (N : Nat) (n : Nat) (l1 : Int32) (l2 : Int32) (l3 : Int32) (l4 : Int32) (I : Nat → Nat → Int32) (J : Nat → Nat → Int64) : zl_X11_sheet N (n+1) 0 l1 l2 l3 l4 I J = zb_X11_sheet_0 N (zl_X11_sheet N n) l1 l2 l3 l4 I J := by
  show (if 0 = 0 then zb_X11_sheet_0 N (zl_X11_sheet N n) l1 l2 l3 l4 I J else none) = _
  rw [if_pos rfl]
def zf_X11_sheet (N : Nat) (l1 : Int32) (l2 : Int32) (l3 : Int32) (l4 : Int32) (I : Nat → Nat → Int32) (J : Nat → Nat → Int64) : Option (Int32 × (Nat → Nat → Int32) × (Nat → Nat → Int64)) := zl_X11_sheet N N 0 l1 l2 l3 l4 I J
theorem zq_X11_sheet (F : zz_F) (d N : Nat) : ∀ n : Nat, (∀ (l1 : Int32) (l2 : Int32) (l3 : Int32) (l4 : Int32) (I : Nat → Nat → Int32) (J : Nat → Nat → Int64) (r : Int32 × (Nat → Nat → Int32) × (Nat → Nat → Int64)), zl_X11_sheet N n 0 l1 l2 l3 l4 I J = some r → zz_run (d+2) 140 0 [some (.ref 2), some (.int l1), some (.int l2), some (.int l3), some (.int l4)] [] (zz_S F I J) (some (.int r.1)) (zz_S F (r.2.1) J)) := by
  intro n
  induction n with
  | zero => exact fun _ _ _ _ _ _ _ h => zz_no h
  | succ n ih =>
    have ih0 := ih
    skip
    · intro l1 l2 l3 l4 I J r hr
      rw [ze_X11_sheet_0] at hr
      unfold zb_X11_sheet_0 at hr
      refine zs_140_0 ?_
      refine And.intro (fun (h1 : l1 < 0) => ?_) (fun (h1 : ¬ (l1 < 0)) => ?_)
      · rw [if_pos h1] at hr
        show zz_run _ 140 15 [some (.ref 2), some (.int l1), some (.int l2), some (.int l3), some (.int l4)] [] (zz_S F I J) _ _
        refine zs_140_15 ?_
        replace hr := Option.some.inj hr
        subst hr
        exact And.intro rfl (And.intro rfl rfl)
      · rw [if_neg h1] at hr
        refine And.intro (fun (h2 : 3 < l1) => ?_) (fun (h2 : ¬ (3 < l1)) => ?_)
        · rw [if_pos h2] at hr
          show zz_run _ 140 15 [some (.ref 2), some (.int l1), some (.int l2), some (.int l3), some (.int l4)] [] (zz_S F I J) _ _
          refine zs_140_15 ?_
          replace hr := Option.some.inj hr
          subst hr
          exact And.intro rfl (And.intro rfl rfl)
        · rw [if_neg h2] at hr
          refine And.intro (fun (h3 : l2 ≤ 12) => ?_) (fun (h3 : ¬ (l2 ≤ 12)) => ?_)
          · rw [if_pos h3] at hr
            show zz_run _ 140 17 [some (.ref 2), some (.int l1), some (.int l2), some (.int l3), some (.int l4)] [] (zz_S F I J) _ _
            refine zs_140_17 ?_
            refine And.intro (fun (h4 : ¬ l1 = 3) => ?_) (fun (h4 : ¬ (¬ l1 = 3)) => ?_)
            · rw [if_pos h4] at hr
              show zz_run _ 140 34 [some (.ref 2), some (.int l1), some (.int l2), some (.int l3), some (.int l4)] [] (zz_S F I J) _ _
              refine zs_140_34 ?_
              refine And.intro (fun (h5 : 0 ≤ l2) => ?_) (fun (h5 : ¬ (0 ≤ l2)) => ?_)
              · rw [if_pos h5] at hr
                show zz_run _ 140 41 [some (.ref 2), some (.int l1), some (.int l2), some (.int l3), some (.int l4)] [] (zz_S F I J) _ _
                refine zs_140_41 ?_
                refine And.intro (rfl) (And.intro (Nat.le_of_ble_eq_true rfl) (And.intro (Nat.le_of_ble_eq_true rfl) (And.intro (Nat.le_of_ble_eq_true rfl) ?_)))
                obtain ⟨r1, cr1, hr⟩ := Option.bind_eq_some_iff.mp hr
                refine Exists.intro _ (Exists.intro _ (And.intro (zr_X11_setMinutes F I J d N l1 l2 l3 l4 r1 cr1) ?_))
                replace hr := Option.some.inj hr
                subst hr
                exact And.intro rfl (And.intro rfl rfl)
              · rw [if_neg h5] at hr
                replace hr := Option.some.inj hr
                subst hr
                exact And.intro rfl (And.intro rfl rfl)
            · rw [if_neg h4] at hr
              refine And.intro (rfl) (And.intro (Nat.le_of_ble_eq_true rfl) (And.intro (Nat.le_of_ble_eq_true rfl) (And.intro (Nat.le_of_ble_eq_true rfl) ?_)))
              obtain ⟨r2, cr2, hr⟩ := Option.bind_eq_some_iff.mp hr
              refine Exists.intro _ (Exists.intro _ (And.intro (zr_X11_setMinutes F I J d N 2 0 1 0 r2 cr2) ?_))
              refine And.intro (rfl) ?_
              replace hr := Option.some.inj hr
              subst hr
              exact And.intro rfl (And.intro rfl rfl)
          · rw [if_neg h3] at hr
            show zz_run _ 140 15 [some (.ref 2), some (.int l1), some (.int l2), some (.int l3), some (.int l4)] [] (zz_S F I J) _ _
            refine zs_140_15 ?_
            replace hr := Option.some.inj hr
            subst hr
            exact And.intro rfl (And.intro rfl rfl)
theorem zr_X11_sheet (F : zz_F) (I : Nat → Nat → Int32) (J : Nat → Nat → Int64) (d N : Nat) (l1 : Int32) (l2 : Int32) (l3 : Int32) (l4 : Int32) (r : Int32 × (Nat → Nat → Int32) × (Nat → Nat → Int64)) (h : zf_X11_sheet N l1 l2 l3 l4 I J = some r) : zz_run (d+2) 140 0 [some (.ref 2), some (.int l1), some (.int l2), some (.int l3), some (.int l4)] [] (zz_S F I J) (some (.int r.1)) (zz_S F (r.2.1) J) := (zq_X11_sheet F d N N) l1 l2 l3 l4 I J r h
def zb_X11_both_0 (N : Nat) (rec : Nat → Int32 → Int32 → (Nat → Nat → Int32) → (Nat → Nat → Int64) → Option (Int32 × (Nat → Nat → Int32) × (Nat → Nat → Int64))) (l1 : Int32) (l2 : Int32) (I : Nat → Nat → Int32) (J : Nat → Nat → Int64) : Option (Int32 × (Nat → Nat → Int32) × (Nat → Nat → Int64)) := if (zv_X11_isHour l1) = 0 then (some ((-1), I, J)) else (if ¬ (zv_X11_isHour l2) = 0 then ((zf_X11_readyLoom__28 N  I J).bind fun r1 => (zf_X4_findTurnsBy N l1 l2 r1.2.1 J).bind fun r2 => (zf_X11_tellTurns N  r2.2.1 J).bind fun r3 => if r2.1 = 0 then (some (0, r3.2.1, r3.2.2)) else (some (1, r3.2.1, r3.2.2))) else (some ((-1), I, J)))
def zl_X11_both (N : Nat) : Nat → Nat → Int32 → Int32 → (Nat → Nat → Int32) → (Nat → Nat → Int64) → Option (Int32 × (Nat → Nat → Int32) × (Nat → Nat → Int64))
  | 0 => fun _ _ _ _ _ => none
  | n + 1 => fun pc l1 l2 I J => if pc = 0 then zb_X11_both_0 N (zl_X11_both N n) l1 l2 I J else none
theorem ze_X11_both_0 (N : Nat) (n : Nat) (l1 : Int32) (l2 : Int32) (I : Nat → Nat → Int32) (J : Nat → Nat → Int64) : zl_X11_both N (n+1) 0 l1 l2 I J = zb_X11_both_0 N (zl_X11_both N n) l1 l2 I J := by
  show (if 0 = 0 then zb_X11_both_0 N (zl_X11_both N n) l1 l2 I J else none) = _
  rw [if_pos rfl]
def zf_X11_both (N : Nat) (l1 : Int32) (l2 : Int32) (I : Nat → Nat → Int32) (J : Nat → Nat → Int64) : Option (Int32 × (Nat → Nat → Int32) × (Nat → Nat → Int64)) := zl_X11_both N N 0 l1 l2 I J
theorem zq_X11_both (F : zz_F) (d N : Nat) : ∀ n : Nat, (∀ (l1 : Int32) (l2 : Int32) (I : Nat → Nat → Int32) (J : Nat → Nat → Int64) (r : Int32 × (Nat → Nat → Int32) × (Nat → Nat → Int64)), zl_X11_both N n 0 l1 l2 I J = some r → zz_run (d+5) 150 0 [some (.ref 2), some (.int l1), some (.int l2), none] [] (zz_S F I J) (some (.int r.1)) (zz_S F (r.2.1) (r.2.2))) := by
  intro n
  induction n with
  | zero => exact fun _ _ _ _ _ h => zz_no h
  | succ n ih =>
    have ih0 := ih
    skip
    · intro l1 l2 I J r hr
      rw [ze_X11_both_0] at hr
      unfold zb_X11_both_0 at hr
      refine zs_150_0 ?_
      refine And.intro (Nat.le_of_ble_eq_true rfl) (And.intro (Nat.le_of_ble_eq_true rfl) (And.intro (Nat.le_of_ble_eq_true rfl) ?_))
      refine Exists.intro _ (Exists.intro _ (And.intro (zr_X11_isHour F I J (d+4) l1) ?_))
      refine And.intro (fun (h1 : (zv_X11_isHour l1) = 0) => ?_) (fun (h1 : ¬ ((zv_X11_isHour l1) = 0)) => ?_)
      · rw [if_pos h1] at hr
        show zz_run _ 150 14 [some (.ref 2), some (.int l1), some (.int l2), none] [] (zz_S F I J) _ _
        refine zs_150_14 ?_
        replace hr := Option.some.inj hr
        subst hr
        exact And.intro rfl (And.intro rfl rfl)
      · rw [if_neg h1] at hr
        refine And.intro (Nat.le_of_ble_eq_true rfl) (And.intro (Nat.le_of_ble_eq_true rfl) (And.intro (Nat.le_of_ble_eq_true rfl) ?_))
        refine Exists.intro _ (Exists.intro _ (And.intro (zr_X11_isHour F I J (d+4) l2) ?_))
        refine And.intro (fun (h2 : ¬ (zv_X11_isHour l2) = 0) => ?_) (fun (h2 : ¬ (¬ (zv_X11_isHour l2) = 0)) => ?_)
        · rw [if_pos h2] at hr
          show zz_run _ 150 16 [some (.ref 2), some (.int l1), some (.int l2), none] [] (zz_S F I J) _ _
          refine zs_150_16 ?_
          refine And.intro (rfl) (And.intro (rfl) (And.intro (Nat.le_of_ble_eq_true rfl) (And.intro (Nat.le_of_ble_eq_true rfl) (And.intro (Nat.le_of_ble_eq_true rfl) ?_))))
          obtain ⟨r1, cr1, hr⟩ := Option.bind_eq_some_iff.mp hr
          refine Exists.intro _ (Exists.intro _ (And.intro (zr_X11_readyLoom__28 F I J d N  r1 cr1) ?_))
          refine And.intro (rfl) (And.intro (rfl) (And.intro (Nat.le_of_ble_eq_true rfl) (And.intro (Nat.le_of_ble_eq_true rfl) (And.intro (Nat.le_of_ble_eq_true rfl) ?_))))
          obtain ⟨r2, cr2, hr⟩ := Option.bind_eq_some_iff.mp hr
          refine Exists.intro _ (Exists.intro _ (And.intro (zr_X4_findTurnsBy F r1.2.1 J (d+1) N l1 l2 r2 cr2) ?_))
          refine And.intro (rfl) (And.intro (Nat.le_of_ble_eq_true rfl) (And.intro (Nat.le_of_ble_eq_true rfl) (And.intro (Nat.le_of_ble_eq_true rfl) ?_)))
          obtain ⟨r3, cr3, hr⟩ := Option.bind_eq_some_iff.mp hr
          refine Exists.intro _ (Exists.intro _ (And.intro (zr_X11_tellTurns F r2.2.1 J (d+3) N  r3 cr3) ?_))
          refine And.intro (fun (h3 : r2.1 = 0) => ?_) (fun (h3 : ¬ (r2.1 = 0)) => ?_)
          · rw [if_pos h3] at hr
            show zz_run _ 150 46 [some (.ref 2), some (.int l1), some (.int l2), some (.int r2.1)] [] (zz_S F r3.2.1 r3.2.2) _ _
            refine zs_150_46 ?_
            show zz_run _ 150 47 [some (.ref 2), some (.int l1), some (.int l2), some (.int r2.1)] [.int 0] (zz_S F r3.2.1 r3.2.2) _ _
            refine zs_150_47 ?_
            replace hr := Option.some.inj hr
            subst hr
            exact And.intro rfl (And.intro rfl rfl)
          · rw [if_neg h3] at hr
            show zz_run _ 150 47 [some (.ref 2), some (.int l1), some (.int l2), some (.int r2.1)] [.int 1] (zz_S F r3.2.1 r3.2.2) _ _
            refine zs_150_47 ?_
            replace hr := Option.some.inj hr
            subst hr
            exact And.intro rfl (And.intro rfl rfl)
        · rw [if_neg h2] at hr
          show zz_run _ 150 14 [some (.ref 2), some (.int l1), some (.int l2), none] [] (zz_S F I J) _ _
          refine zs_150_14 ?_
          replace hr := Option.some.inj hr
          subst hr
          exact And.intro rfl (And.intro rfl rfl)
theorem zr_X11_both (F : zz_F) (I : Nat → Nat → Int32) (J : Nat → Nat → Int64) (d N : Nat) (l1 : Int32) (l2 : Int32) (r : Int32 × (Nat → Nat → Int32) × (Nat → Nat → Int64)) (h : zf_X11_both N l1 l2 I J = some r) : zz_run (d+5) 150 0 [some (.ref 2), some (.int l1), some (.int l2), none] [] (zz_S F I J) (some (.int r.1)) (zz_S F (r.2.1) (r.2.2)) := (zq_X11_both F d N N) l1 l2 I J r h
def zb_X11_cheers_0 (N : Nat) (rec : Nat → Int32 → (Nat → Nat → Int32) → (Nat → Nat → Int64) → zz_F → Option (Int32 × (Nat → Nat → Int32) × (Nat → Nat → Int64) × zz_F)) (l1 : Int32) (I : Nat → Nat → Int32) (J : Nat → Nat → Int64) (F : zz_F) : Option (Int32 × (Nat → Nat → Int32) × (Nat → Nat → Int64) × zz_F) := if ¬ (zv_X11_isPlay l1) = 0 then ((zf_X10_broughtInOrder N l1 I J).bind fun r1 => (zf_X10_mostBrought N l1 I J F).bind fun r2 => some (r1.1, zw_X11_tell r2.2.1 r2.2.2.1 r2.1.toInt64, zx_X11_tell r2.2.1 r2.2.2.1 r2.1.toInt64, r2.2.2.2)) else (some ((-1), I, J, F))
def zl_X11_cheers (N : Nat) : Nat → Nat → Int32 → (Nat → Nat → Int32) → (Nat → Nat → Int64) → zz_F → Option (Int32 × (Nat → Nat → Int32) × (Nat → Nat → Int64) × zz_F)
  | 0 => fun _ _ _ _ _ => none
  | n + 1 => fun pc l1 I J F => if pc = 0 then zb_X11_cheers_0 N (zl_X11_cheers N n) l1 I J F else none
theorem ze_X11_cheers_0 (N : Nat) (n : Nat) (l1 : Int32) (I : Nat → Nat → Int32) (J : Nat → Nat → Int64) (F : zz_F) : zl_X11_cheers N (n+1) 0 l1 I J F = zb_X11_cheers_0 N (zl_X11_cheers N n) l1 I J F := by
  show (if 0 = 0 then zb_X11_cheers_0 N (zl_X11_cheers N n) l1 I J F else none) = _
  rw [if_pos rfl]
def zf_X11_cheers (N : Nat) (l1 : Int32) (I : Nat → Nat → Int32) (J : Nat → Nat → Int64) (F : zz_F) : Option (Int32 × (Nat → Nat → Int32) × (Nat → Nat → Int64) × zz_F) := zl_X11_cheers N N 0 l1 I J F
theorem zq_X11_cheers (d N : Nat) : ∀ n : Nat, (∀ (l1 : Int32) (I : Nat → Nat → Int32) (J : Nat → Nat → Int64) (F : zz_F) (r : Int32 × (Nat → Nat → Int32) × (Nat → Nat → Int64) × zz_F), zl_X11_cheers N n 0 l1 I J F = some r → zz_run (d+5) 159 0 [some (.ref 2), some (.int l1), none] [] (zz_S F I J) (some (.int r.1)) (zz_S (r.2.2.2) (r.2.1) (r.2.2.1))) := by
  intro n
  induction n with
  | zero => exact fun _ _ _ _ _ h => zz_no h
  | succ n ih =>
    have ih0 := ih
    skip
    · intro l1 I J F r hr
      rw [ze_X11_cheers_0] at hr
      unfold zb_X11_cheers_0 at hr
      refine zs_159_0 ?_
      refine And.intro (Nat.le_of_ble_eq_true rfl) (And.intro (Nat.le_of_ble_eq_true rfl) (And.intro (Nat.le_of_ble_eq_true rfl) ?_))
      refine Exists.intro _ (Exists.intro _ (And.intro (zr_X11_isPlay F I J (d+4) l1) ?_))
      refine And.intro (fun (h1 : ¬ (zv_X11_isPlay l1) = 0) => ?_) (fun (h1 : ¬ (¬ (zv_X11_isPlay l1) = 0)) => ?_)
      · rw [if_pos h1] at hr
        show zz_run _ 159 9 [some (.ref 2), some (.int l1), none] [] (zz_S F I J) _ _
        refine zs_159_9 ?_
        refine And.intro (rfl) (And.intro (rfl) (And.intro (Nat.le_of_ble_eq_true rfl) (And.intro (Nat.le_of_ble_eq_true rfl) (And.intro (Nat.le_of_ble_eq_true rfl) ?_))))
        obtain ⟨r1, cr1, hr⟩ := Option.bind_eq_some_iff.mp hr
        refine Exists.intro _ (Exists.intro _ (And.intro (zr_X10_broughtInOrder F I J (d+1) N l1 r1 cr1) ?_))
        refine And.intro (rfl) (And.intro (rfl) (And.intro (Nat.le_of_ble_eq_true rfl) (And.intro (Nat.le_of_ble_eq_true rfl) (And.intro (Nat.le_of_ble_eq_true rfl) ?_))))
        obtain ⟨r2, cr2, hr⟩ := Option.bind_eq_some_iff.mp hr
        refine Exists.intro _ (Exists.intro _ (And.intro (zr_X10_mostBrought d N l1 I J F r2 cr2) ?_))
        refine And.intro (rfl) (And.intro (Nat.le_of_ble_eq_true rfl) (And.intro (Nat.le_of_ble_eq_true rfl) (And.intro (Nat.le_of_ble_eq_true rfl) ?_)))
        refine Exists.intro _ (Exists.intro _ (And.intro (zr_X11_tell r2.2.2.2 r2.2.1 r2.2.2.1 (d+3) r2.1.toInt64) ?_))
        replace hr := Option.some.inj hr
        subst hr
        exact And.intro rfl (And.intro rfl rfl)
      · rw [if_neg h1] at hr
        replace hr := Option.some.inj hr
        subst hr
        exact And.intro rfl (And.intro rfl rfl)
theorem zr_X11_cheers (d N : Nat) (l1 : Int32) (I : Nat → Nat → Int32) (J : Nat → Nat → Int64) (F : zz_F) (r : Int32 × (Nat → Nat → Int32) × (Nat → Nat → Int64) × zz_F) (h : zf_X11_cheers N l1 I J F = some r) : zz_run (d+5) 159 0 [some (.ref 2), some (.int l1), none] [] (zz_S F I J) (some (.int r.1)) (zz_S (r.2.2.2) (r.2.1) (r.2.2.1)) := (zq_X11_cheers d N N) l1 I J F r h
def zb_X11_chance_0 (N : Nat) (rec : Nat → Int32 → Int32 → Int32 → Int64 → Int64 → Int32 → (Nat → Nat → Int32) → (Nat → Nat → Int64) → Option (Int32 × (Nat → Nat → Int32) × (Nat → Nat → Int64))) (l1 : Int32) (l2 : Int32) (l3 : Int32) (m4 : Int64) (m6 : Int64) (l8 : Int32) (I : Nat → Nat → Int32) (J : Nat → Nat → Int64) : Option (Int32 × (Nat → Nat → Int32) × (Nat → Nat → Int64)) := if (zv_X11_isPlay l1) = 0 then (some ((-1), I, J)) else (if l2 < 0 then (some ((-1), I, J)) else (if l2 ≤ 10 then ((zf_X9_unionOf N ((I 8 2) &&& (zv_X9_scenesOf I l1)) 2 I J).bind fun r1 => rec 53 0 l2 r1.1 1 1 0 I J) else (some ((-1), I, J))))
def zb_X11_chance_53 (N : Nat) (rec : Nat → Int32 → Int32 → Int32 → Int64 → Int64 → Int32 → (Nat → Nat → Int32) → (Nat → Nat → Int64) → Option (Int32 × (Nat → Nat → Int32) × (Nat → Nat → Int64))) (l1 : Int32) (l2 : Int32) (l3 : Int32) (m4 : Int64) (m6 : Int64) (l8 : Int32) (I : Nat → Nat → Int32) (J : Nat → Nat → Int64) : Option (Int32 × (Nat → Nat → Int32) × (Nat → Nat → Int64)) := if (zv_J6_bitCount l3) ≤ l8 then ((zf_X11_tellFraction N m4 m6 I J).bind fun r2 => some (0, r2.2.1, r2.2.2)) else (rec 53 0 l2 l3 (m4 * ((10 - l2).toInt64)) (m6 * 10) (l8 + 1) I J)
def zl_X11_chance (N : Nat) : Nat → Nat → Int32 → Int32 → Int32 → Int64 → Int64 → Int32 → (Nat → Nat → Int32) → (Nat → Nat → Int64) → Option (Int32 × (Nat → Nat → Int32) × (Nat → Nat → Int64))
  | 0 => fun _ _ _ _ _ _ _ _ _ => none
  | n + 1 => fun pc l1 l2 l3 m4 m6 l8 I J => if pc = 0 then zb_X11_chance_0 N (zl_X11_chance N n) l1 l2 l3 m4 m6 l8 I J else (if pc = 53 then zb_X11_chance_53 N (zl_X11_chance N n) l1 l2 l3 m4 m6 l8 I J else none)
theorem ze_X11_chance_0 (N : Nat) (n : Nat) (l1 : Int32) (l2 : Int32) (l3 : Int32) (m4 : Int64) (m6 : Int64) (l8 : Int32) (I : Nat → Nat → Int32) (J : Nat → Nat → Int64) : zl_X11_chance N (n+1) 0 l1 l2 l3 m4 m6 l8 I J = zb_X11_chance_0 N (zl_X11_chance N n) l1 l2 l3 m4 m6 l8 I J := by
  show (if 0 = 0 then zb_X11_chance_0 N (zl_X11_chance N n) l1 l2 l3 m4 m6 l8 I J else (if 0 = 53 then zb_X11_chance_53 N (zl_X11_chance N n) l1 l2 l3 m4 m6 l8 I J else none)) = _
  rw [if_pos rfl]
theorem ze_X11_chance_53 (N : Nat) (n : Nat) (l1 : Int32) (l2 : Int32) (l3 : Int32) (m4 : Int64) (m6 : Int64) (l8 : Int32) (I : Nat → Nat → Int32) (J : Nat → Nat → Int64) : zl_X11_chance N (n+1) 53 l1 l2 l3 m4 m6 l8 I J = zb_X11_chance_53 N (zl_X11_chance N n) l1 l2 l3 m4 m6 l8 I J := by
  show (if 53 = 0 then zb_X11_chance_0 N (zl_X11_chance N n) l1 l2 l3 m4 m6 l8 I J else (if 53 = 53 then zb_X11_chance_53 N (zl_X11_chance N n) l1 l2 l3 m4 m6 l8 I J else none)) = _
  rw [if_neg (by decide), if_pos rfl]
def zf_X11_chance (N : Nat) (l1 : Int32) (l2 : Int32) (I : Nat → Nat → Int32) (J : Nat → Nat → Int64) : Option (Int32 × (Nat → Nat → Int32) × (Nat → Nat → Int64)) := zl_X11_chance N N 0 l1 l2 0 0 0 0 I J
theorem zq_X11_chance (F : zz_F) (d N : Nat) : ∀ n : Nat, (∀ (l1 : Int32) (l2 : Int32) (l3 : Int32) (m4 : Int64) (m6 : Int64) (l8 : Int32) (I : Nat → Nat → Int32) (J : Nat → Nat → Int64) (r : Int32 × (Nat → Nat → Int32) × (Nat → Nat → Int64)), zl_X11_chance N n 0 l1 l2 l3 m4 m6 l8 I J = some r → zz_run (d+4) 164 0 [some (.ref 2), some (.int l1), some (.int l2), none, none, none, none, none, none] [] (zz_S F I J) (some (.int r.1)) (zz_S F (r.2.1) (r.2.2))) ∧ (∀ (l1 : Int32) (l2 : Int32) (l3 : Int32) (m4 : Int64) (m6 : Int64) (l8 : Int32) (I : Nat → Nat → Int32) (J : Nat → Nat → Int64) (r : Int32 × (Nat → Nat → Int32) × (Nat → Nat → Int64)), zl_X11_chance N n 53 l1 l2 l3 m4 m6 l8 I J = some r → zz_run (d+4) 164 53 [some (.ref 2), none, some (.int l2), some (.int l3), some (.long m4), none, some (.long m6), none, some (.int l8)] [] (zz_S F I J) (some (.int r.1)) (zz_S F (r.2.1) (r.2.2))) := by
  intro n
  induction n with
  | zero => exact ⟨fun _ _ _ _ _ _ _ _ _ h => zz_no h, fun _ _ _ _ _ _ _ _ _ h => zz_no h⟩
  | succ n ih =>
    obtain ⟨ih0, ih53⟩ := ih
    refine ⟨?_, ?_⟩
    · intro l1 l2 l3 m4 m6 l8 I J r hr
      rw [ze_X11_chance_0] at hr
      unfold zb_X11_chance_0 at hr
      refine zs_164_0 ?_
      refine And.intro (Nat.le_of_ble_eq_true rfl) (And.intro (Nat.le_of_ble_eq_true rfl) (And.intro (Nat.le_of_ble_eq_true rfl) ?_))
      refine Exists.intro _ (Exists.intro _ (And.intro (zr_X11_isPlay F I J (d+3) l1) ?_))
      refine And.intro (fun (h1 : (zv_X11_isPlay l1) = 0) => ?_) (fun (h1 : ¬ ((zv_X11_isPlay l1) = 0)) => ?_)
      · rw [if_pos h1] at hr
        show zz_run _ 164 17 [some (.ref 2), some (.int l1), some (.int l2), none, none, none, none, none, none] [] (zz_S F I J) _ _
        refine zs_164_17 ?_
        replace hr := Option.some.inj hr
        subst hr
        exact And.intro rfl (And.intro rfl rfl)
      · rw [if_neg h1] at hr
        refine And.intro (fun (h2 : l2 < 0) => ?_) (fun (h2 : ¬ (l2 < 0)) => ?_)
        · rw [if_pos h2] at hr
          show zz_run _ 164 17 [some (.ref 2), some (.int l1), some (.int l2), none, none, none, none, none, none] [] (zz_S F I J) _ _
          refine zs_164_17 ?_
          replace hr := Option.some.inj hr
          subst hr
          exact And.intro rfl (And.intro rfl rfl)
        · rw [if_neg h2] at hr
          refine And.intro (fun (h3 : l2 ≤ 10) => ?_) (fun (h3 : ¬ (l2 ≤ 10)) => ?_)
          · rw [if_pos h3] at hr
            show zz_run _ 164 19 [some (.ref 2), some (.int l1), some (.int l2), none, none, none, none, none, none] [] (zz_S F I J) _ _
            refine zs_164_19 ?_
            refine And.intro (rfl) (And.intro (rfl) (And.intro (rfl) (And.intro (rfl) (And.intro (rfl) (And.intro (Nat.le_of_ble_eq_true rfl) ?_)))))
            refine And.intro (Nat.le_of_ble_eq_true rfl) (And.intro (Nat.le_of_ble_eq_true rfl) ?_)
            refine Exists.intro _ (Exists.intro _ (And.intro (zr_X9_scenesOf F I J (d+3) l1) ?_))
            refine And.intro (rfl) (And.intro (Nat.le_of_ble_eq_true rfl) (And.intro (Nat.le_of_ble_eq_true rfl) (And.intro (Nat.le_of_ble_eq_true rfl) ?_)))
            obtain ⟨r1, cr1, hr⟩ := Option.bind_eq_some_iff.mp hr
            refine Exists.intro _ (Exists.intro _ (And.intro (zr_X9_unionOf F I J (d+2) N ((I 8 2) &&& (zv_X9_scenesOf I l1)) 2 r1 cr1) ?_))
            exact zz_wk [true, false, true, true, true, false, true, false, true] rfl (ih53 _ _ _ _ _ _ _ _ _ hr)
          · rw [if_neg h3] at hr
            show zz_run _ 164 17 [some (.ref 2), some (.int l1), some (.int l2), none, none, none, none, none, none] [] (zz_S F I J) _ _
            refine zs_164_17 ?_
            replace hr := Option.some.inj hr
            subst hr
            exact And.intro rfl (And.intro rfl rfl)
    · intro l1 l2 l3 m4 m6 l8 I J r hr
      rw [ze_X11_chance_53] at hr
      unfold zb_X11_chance_53 at hr
      refine zs_164_53 ?_
      refine And.intro (Nat.le_of_ble_eq_true rfl) (And.intro (Nat.le_of_ble_eq_true rfl) (And.intro (Nat.le_of_ble_eq_true rfl) ?_))
      refine Exists.intro _ (Exists.intro _ (And.intro (zr_J6_bitCount F I J (d+3) l3) ?_))
      refine And.intro (fun (h4 : (zv_J6_bitCount l3) ≤ l8) => ?_) (fun (h4 : ¬ ((zv_J6_bitCount l3) ≤ l8)) => ?_)
      · rw [if_pos h4] at hr
        show zz_run _ 164 86 [some (.ref 2), none, some (.int l2), some (.int l3), some (.long m4), none, some (.long m6), none, some (.int l8)] [] (zz_S F I J) _ _
        refine zs_164_86 ?_
        refine And.intro (rfl) (And.intro (Nat.le_of_ble_eq_true rfl) (And.intro (Nat.le_of_ble_eq_true rfl) (And.intro (Nat.le_of_ble_eq_true rfl) ?_)))
        obtain ⟨r2, cr2, hr⟩ := Option.bind_eq_some_iff.mp hr
        refine Exists.intro _ (Exists.intro _ (And.intro (zr_X11_tellFraction F I J d N m4 m6 r2 cr2) ?_))
        replace hr := Option.some.inj hr
        subst hr
        exact And.intro rfl (And.intro rfl rfl)
      · rw [if_neg h4] at hr
        exact zz_wk [true, false, true, true, true, false, true, false, true] rfl (ih53 _ _ _ _ _ _ _ _ _ hr)
theorem zr_X11_chance (F : zz_F) (I : Nat → Nat → Int32) (J : Nat → Nat → Int64) (d N : Nat) (l1 : Int32) (l2 : Int32) (r : Int32 × (Nat → Nat → Int32) × (Nat → Nat → Int64)) (h : zf_X11_chance N l1 l2 I J = some r) : zz_run (d+4) 164 0 [some (.ref 2), some (.int l1), some (.int l2), none, none, none, none, none, none] [] (zz_S F I J) (some (.int r.1)) (zz_S F (r.2.1) (r.2.2)) := (zq_X11_chance F d N N).1 l1 l2 0 0 0 0 I J r h
def zb_X11_likely_0 (N : Nat) (rec : Nat → Int32 → (Nat → Nat → Int32) → (Nat → Nat → Int64) → Option (Int32 × (Nat → Nat → Int32) × (Nat → Nat → Int64))) (l1 : Int32) (I : Nat → Nat → Int32) (J : Nat → Nat → Int64) : Option (Int32 × (Nat → Nat → Int32) × (Nat → Nat → Int64)) := if l1 < 0 then (some ((-1), I, J)) else (if l1 ≤ 10 then ((zf_X2_weighCounts N (I 8 2) l1 I J).bind fun r1 => (zf_X2_heaviestCount N  r1.2.1 J).bind fun r2 => (zf_X2_weightOfAll N  r1.2.1 J).bind fun r3 => (zf_X11_tellFraction N ((zv_X2_weightOf r1.2.1 r2.1).toInt64) r3.1.toInt64 r1.2.1 J).bind fun r4 => some (r2.1, r4.2.1, r4.2.2)) else (some ((-1), I, J)))
def zl_X11_likely (N : Nat) : Nat → Nat → Int32 → (Nat → Nat → Int32) → (Nat → Nat → Int64) → Option (Int32 × (Nat → Nat → Int32) × (Nat → Nat → Int64))
  | 0 => fun _ _ _ _ => none
  | n + 1 => fun pc l1 I J => if pc = 0 then zb_X11_likely_0 N (zl_X11_likely N n) l1 I J else none
theorem ze_X11_likely_0 (N : Nat) (n : Nat) (l1 : Int32) (I : Nat → Nat → Int32) (J : Nat → Nat → Int64) : zl_X11_likely N (n+1) 0 l1 I J = zb_X11_likely_0 N (zl_X11_likely N n) l1 I J := by
  show (if 0 = 0 then zb_X11_likely_0 N (zl_X11_likely N n) l1 I J else none) = _
  rw [if_pos rfl]
def zf_X11_likely (N : Nat) (l1 : Int32) (I : Nat → Nat → Int32) (J : Nat → Nat → Int64) : Option (Int32 × (Nat → Nat → Int32) × (Nat → Nat → Int64)) := zl_X11_likely N N 0 l1 I J
theorem zq_X11_likely (F : zz_F) (d N : Nat) : ∀ n : Nat, (∀ (l1 : Int32) (I : Nat → Nat → Int32) (J : Nat → Nat → Int64) (r : Int32 × (Nat → Nat → Int32) × (Nat → Nat → Int64)), zl_X11_likely N n 0 l1 I J = some r → zz_run (d+4) 165 0 [some (.ref 2), some (.int l1), none] [] (zz_S F I J) (some (.int r.1)) (zz_S F (r.2.1) (r.2.2))) := by
  intro n
  induction n with
  | zero => exact fun _ _ _ _ h => zz_no h
  | succ n ih =>
    have ih0 := ih
    skip
    · intro l1 I J r hr
      rw [ze_X11_likely_0] at hr
      unfold zb_X11_likely_0 at hr
      refine zs_165_0 ?_
      refine And.intro (fun (h1 : l1 < 0) => ?_) (fun (h1 : ¬ (l1 < 0)) => ?_)
      · rw [if_pos h1] at hr
        show zz_run _ 165 10 [some (.ref 2), some (.int l1), none] [] (zz_S F I J) _ _
        refine zs_165_10 ?_
        replace hr := Option.some.inj hr
        subst hr
        exact And.intro rfl (And.intro rfl rfl)
      · rw [if_neg h1] at hr
        refine And.intro (fun (h2 : l1 ≤ 10) => ?_) (fun (h2 : ¬ (l1 ≤ 10)) => ?_)
        · rw [if_pos h2] at hr
          show zz_run _ 165 12 [some (.ref 2), some (.int l1), none] [] (zz_S F I J) _ _
          refine zs_165_12 ?_
          refine And.intro (rfl) (And.intro (rfl) (And.intro (rfl) (And.intro (rfl) (And.intro (Nat.le_of_ble_eq_true rfl) (And.intro (Nat.le_of_ble_eq_true rfl) ?_)))))
          refine And.intro (Nat.le_of_ble_eq_true rfl) ?_
          obtain ⟨r1, cr1, hr⟩ := Option.bind_eq_some_iff.mp hr
          refine Exists.intro _ (Exists.intro _ (And.intro (zr_X2_weighCounts F I J (d+1) N (I 8 2) l1 r1 cr1) ?_))
          refine And.intro (rfl) (And.intro (rfl) (And.intro (Nat.le_of_ble_eq_true rfl) (And.intro (Nat.le_of_ble_eq_true rfl) (And.intro (Nat.le_of_ble_eq_true rfl) ?_))))
          obtain ⟨r2, cr2, hr⟩ := Option.bind_eq_some_iff.mp hr
          refine Exists.intro _ (Exists.intro _ (And.intro (zr_X2_heaviestCount F r1.2.1 J (d+3) N  r2 cr2) ?_))
          refine And.intro (rfl) (And.intro (rfl) (And.intro (Nat.le_of_ble_eq_true rfl) (And.intro (Nat.le_of_ble_eq_true rfl) (And.intro (Nat.le_of_ble_eq_true rfl) ?_))))
          refine Exists.intro _ (Exists.intro _ (And.intro (zr_X2_weightOf F r1.2.1 J (d+3) r2.1) ?_))
          refine And.intro (rfl) (And.intro (rfl) (And.intro (Nat.le_of_ble_eq_true rfl) (And.intro (Nat.le_of_ble_eq_true rfl) (And.intro (Nat.le_of_ble_eq_true rfl) ?_))))
          obtain ⟨r3, cr3, hr⟩ := Option.bind_eq_some_iff.mp hr
          refine Exists.intro _ (Exists.intro _ (And.intro (zr_X2_weightOfAll F r1.2.1 J (d+3) N  r3 cr3) ?_))
          refine And.intro (rfl) (And.intro (Nat.le_of_ble_eq_true rfl) (And.intro (Nat.le_of_ble_eq_true rfl) (And.intro (Nat.le_of_ble_eq_true rfl) ?_)))
          obtain ⟨r4, cr4, hr⟩ := Option.bind_eq_some_iff.mp hr
          refine Exists.intro _ (Exists.intro _ (And.intro (zr_X11_tellFraction F r1.2.1 J d N ((zv_X2_weightOf r1.2.1 r2.1).toInt64) r3.1.toInt64 r4 cr4) ?_))
          replace hr := Option.some.inj hr
          subst hr
          exact And.intro rfl (And.intro rfl rfl)
        · rw [if_neg h2] at hr
          show zz_run _ 165 10 [some (.ref 2), some (.int l1), none] [] (zz_S F I J) _ _
          refine zs_165_10 ?_
          replace hr := Option.some.inj hr
          subst hr
          exact And.intro rfl (And.intro rfl rfl)
theorem zr_X11_likely (F : zz_F) (I : Nat → Nat → Int32) (J : Nat → Nat → Int64) (d N : Nat) (l1 : Int32) (r : Int32 × (Nat → Nat → Int32) × (Nat → Nat → Int64)) (h : zf_X11_likely N l1 I J = some r) : zz_run (d+4) 165 0 [some (.ref 2), some (.int l1), none] [] (zz_S F I J) (some (.int r.1)) (zz_S F (r.2.1) (r.2.2)) := (zq_X11_likely F d N N) l1 I J r h
def zb_X11_nextOf_0 (N : Nat) (rec : Nat → Int32 → (Nat → Nat → Int32) → (Nat → Nat → Int64) → Option (Int32 × (Nat → Nat → Int32) × (Nat → Nat → Int64))) (l1 : Int32) (I : Nat → Nat → Int32) (J : Nat → Nat → Int64) : Option (Int32 × (Nat → Nat → Int32) × (Nat → Nat → Int64)) := if ¬ ((I 8 2) &&& (zv_X9_scenesOf I l1)) = 0 then ((zf_J6_numberOfTrailingZeros N ((I 8 2) &&& (zv_X9_scenesOf I l1)) I J).bind fun r1 => some (r1.1, I, J)) else (some ((-1), I, J))
def zl_X11_nextOf (N : Nat) : Nat → Nat → Int32 → (Nat → Nat → Int32) → (Nat → Nat → Int64) → Option (Int32 × (Nat → Nat → Int32) × (Nat → Nat → Int64))
  | 0 => fun _ _ _ _ => none
  | n + 1 => fun pc l1 I J => if pc = 0 then zb_X11_nextOf_0 N (zl_X11_nextOf N n) l1 I J else none
theorem ze_X11_nextOf_0 (N : Nat) (n : Nat) (l1 : Int32) (I : Nat → Nat → Int32) (J : Nat → Nat → Int64) : zl_X11_nextOf N (n+1) 0 l1 I J = zb_X11_nextOf_0 N (zl_X11_nextOf N n) l1 I J := by
  show (if 0 = 0 then zb_X11_nextOf_0 N (zl_X11_nextOf N n) l1 I J else none) = _
  rw [if_pos rfl]
def zf_X11_nextOf (N : Nat) (l1 : Int32) (I : Nat → Nat → Int32) (J : Nat → Nat → Int64) : Option (Int32 × (Nat → Nat → Int32) × (Nat → Nat → Int64)) := zl_X11_nextOf N N 0 l1 I J
theorem zq_X11_nextOf (F : zz_F) (d N : Nat) : ∀ n : Nat, (∀ (l1 : Int32) (I : Nat → Nat → Int32) (J : Nat → Nat → Int64) (r : Int32 × (Nat → Nat → Int32) × (Nat → Nat → Int64)), zl_X11_nextOf N n 0 l1 I J = some r → zz_run (d+1) 190 0 [some (.ref 2), some (.int l1), none] [] (zz_S F I J) (some (.int r.1)) (zz_S F I J)) := by
  intro n
  induction n with
  | zero => exact fun _ _ _ _ h => zz_no h
  | succ n ih =>
    have ih0 := ih
    skip
    · intro l1 I J r hr
      rw [ze_X11_nextOf_0] at hr
      unfold zb_X11_nextOf_0 at hr
      refine zs_190_0 ?_
      refine And.intro (rfl) (And.intro (rfl) (And.intro (rfl) (And.intro (rfl) (And.intro (Nat.le_of_ble_eq_true rfl) (And.intro (Nat.le_of_ble_eq_true rfl) ?_)))))
      refine And.intro (Nat.le_of_ble_eq_true rfl) ?_
      refine Exists.intro _ (Exists.intro _ (And.intro (zr_X9_scenesOf F I J d l1) ?_))
      refine And.intro (fun (h1 : ¬ ((I 8 2) &&& (zv_X9_scenesOf I l1)) = 0) => ?_) (fun (h1 : ¬ (¬ ((I 8 2) &&& (zv_X9_scenesOf I l1)) = 0)) => ?_)
      · rw [if_pos h1] at hr
        show zz_run _ 190 25 [some (.ref 2), some (.int l1), some (.int ((I 8 2) &&& (zv_X9_scenesOf I l1)))] [] (zz_S F I J) _ _
        refine zs_190_25 ?_
        refine And.intro (Nat.le_of_ble_eq_true rfl) (And.intro (Nat.le_of_ble_eq_true rfl) (And.intro (Nat.le_of_ble_eq_true rfl) ?_))
        obtain ⟨r1, cr1, hr⟩ := Option.bind_eq_some_iff.mp hr
        refine Exists.intro _ (Exists.intro _ (And.intro (zr_J6_numberOfTrailingZeros F I J d N ((I 8 2) &&& (zv_X9_scenesOf I l1)) r1 cr1) ?_))
        show zz_run _ 190 29 [some (.ref 2), some (.int l1), some (.int ((I 8 2) &&& (zv_X9_scenesOf I l1)))] [.int r1.1] (zz_S F I J) _ _
        refine zs_190_29 ?_
        replace hr := Option.some.inj hr
        subst hr
        exact And.intro rfl (And.intro rfl rfl)
      · rw [if_neg h1] at hr
        show zz_run _ 190 29 [some (.ref 2), some (.int l1), some (.int ((I 8 2) &&& (zv_X9_scenesOf I l1)))] [.int ((-1))] (zz_S F I J) _ _
        refine zs_190_29 ?_
        replace hr := Option.some.inj hr
        subst hr
        exact And.intro rfl (And.intro rfl rfl)
theorem zr_X11_nextOf (F : zz_F) (I : Nat → Nat → Int32) (J : Nat → Nat → Int64) (d N : Nat) (l1 : Int32) (r : Int32 × (Nat → Nat → Int32) × (Nat → Nat → Int64)) (h : zf_X11_nextOf N l1 I J = some r) : zz_run (d+1) 190 0 [some (.ref 2), some (.int l1), none] [] (zz_S F I J) (some (.int r.1)) (zz_S F I J) := (zq_X11_nextOf F d N N) l1 I J r h
def zb_X11_performNext_0 (N : Nat) (rec : Nat → Int32 → (Nat → Nat → Int32) → (Nat → Nat → Int64) → Option (Int32 × (Nat → Nat → Int32) × (Nat → Nat → Int64))) (l1 : Int32) (I : Nat → Nat → Int32) (J : Nat → Nat → Int64) : Option (Int32 × (Nat → Nat → Int32) × (Nat → Nat → Int64)) := (zf_X11_nextOf N l1 I J).bind fun r1 => if ¬ r1.1 = ((-1)) then (if (¬ ((I 8 1) < 0)) → (¬ (12 ≤ (I 8 1))) → (¬ (r1.1 < 0)) → (r1.1 < 12) → (¬ ((((I 8 1) * 12) + r1.1) < 0 ∨ 144 ≤ (((I 8 1) * 12) + r1.1).toNatClampNeg)) then (some (1, zz_perfm I r1.1 (zv_X1_between I (I 8 1) r1.1), J)) else none) else (some (0, I, J))
def zl_X11_performNext (N : Nat) : Nat → Nat → Int32 → (Nat → Nat → Int32) → (Nat → Nat → Int64) → Option (Int32 × (Nat → Nat → Int32) × (Nat → Nat → Int64))
  | 0 => fun _ _ _ _ => none
  | n + 1 => fun pc l1 I J => if pc = 0 then zb_X11_performNext_0 N (zl_X11_performNext N n) l1 I J else none
theorem ze_X11_performNext_0 (N : Nat) (n : Nat) (l1 : Int32) (I : Nat → Nat → Int32) (J : Nat → Nat → Int64) : zl_X11_performNext N (n+1) 0 l1 I J = zb_X11_performNext_0 N (zl_X11_performNext N n) l1 I J := by
  show (if 0 = 0 then zb_X11_performNext_0 N (zl_X11_performNext N n) l1 I J else none) = _
  rw [if_pos rfl]
def zf_X11_performNext (N : Nat) (l1 : Int32) (I : Nat → Nat → Int32) (J : Nat → Nat → Int64) : Option (Int32 × (Nat → Nat → Int32) × (Nat → Nat → Int64)) := zl_X11_performNext N N 0 l1 I J
theorem zq_X11_performNext (F : zz_F) (d N : Nat) : ∀ n : Nat, (∀ (l1 : Int32) (I : Nat → Nat → Int32) (J : Nat → Nat → Int64) (r : Int32 × (Nat → Nat → Int32) × (Nat → Nat → Int64)), zl_X11_performNext N n 0 l1 I J = some r → zz_run (d+4) 193 0 [some (.ref 2), some (.int l1), none] [] (zz_S F I J) (some (.int r.1)) (zz_S F (r.2.1) J)) := by
  intro n
  induction n with
  | zero => exact fun _ _ _ _ h => zz_no h
  | succ n ih =>
    have ih0 := ih
    skip
    · intro l1 I J r hr
      rw [ze_X11_performNext_0] at hr
      unfold zb_X11_performNext_0 at hr
      refine zs_193_0 ?_
      refine And.intro (rfl) (And.intro (Nat.le_of_ble_eq_true rfl) (And.intro (Nat.le_of_ble_eq_true rfl) (And.intro (Nat.le_of_ble_eq_true rfl) ?_)))
      obtain ⟨r1, cr1, hr⟩ := Option.bind_eq_some_iff.mp hr
      refine Exists.intro _ (Exists.intro _ (And.intro (zr_X11_nextOf F I J (d+2) N l1 r1 cr1) ?_))
      refine And.intro (fun (h1 : ¬ r1.1 = ((-1))) => ?_) (fun (h1 : ¬ (¬ r1.1 = ((-1)))) => ?_)
      · rw [if_pos h1] at hr
        show zz_run _ 193 13 [some (.ref 2), some (.int l1), some (.int r1.1)] [] (zz_S F I J) _ _
        refine zs_193_13 ?_
        refine And.intro (rfl) (And.intro (rfl) (And.intro (rfl) (And.intro (rfl) (And.intro (rfl) (And.intro (rfl) ?_)))))
        refine And.intro (Nat.le_of_ble_eq_true rfl) (And.intro (Nat.le_of_ble_eq_true rfl) (And.intro (Nat.le_of_ble_eq_true rfl) ?_))
        have g2 : (¬ ((I 8 1) < 0)) → (¬ (12 ≤ (I 8 1))) → (¬ (r1.1 < 0)) → (r1.1 < 12) → (¬ ((((I 8 1) * 12) + r1.1) < 0 ∨ 144 ≤ (((I 8 1) * 12) + r1.1).toNatClampNeg)) := zz_g hr
        replace hr := zz_gt hr
        refine Exists.intro _ (Exists.intro _ (And.intro (zr_X1_between F I J (d+3) (I 8 1) r1.1 g2) ?_))
        refine And.intro (rfl) (And.intro (Nat.le_of_ble_eq_true rfl) (And.intro (Nat.le_of_ble_eq_true rfl) (And.intro (Nat.le_of_ble_eq_true rfl) ?_)))
        refine Exists.intro _ (Exists.intro _ (And.intro (zr_perform F I J d r1.1 (zv_X1_between I (I 8 1) r1.1)) ?_))
        refine And.intro (rfl) ?_
        replace hr := Option.some.inj hr
        subst hr
        exact And.intro rfl (And.intro rfl rfl)
      · rw [if_neg h1] at hr
        replace hr := Option.some.inj hr
        subst hr
        exact And.intro rfl (And.intro rfl rfl)
theorem zr_X11_performNext (F : zz_F) (I : Nat → Nat → Int32) (J : Nat → Nat → Int64) (d N : Nat) (l1 : Int32) (r : Int32 × (Nat → Nat → Int32) × (Nat → Nat → Int64)) (h : zf_X11_performNext N l1 I J = some r) : zz_run (d+4) 193 0 [some (.ref 2), some (.int l1), none] [] (zz_S F I J) (some (.int r.1)) (zz_S F (r.2.1) J) := (zq_X11_performNext F d N N) l1 I J r h
def zb_X11_act_0 (N : Nat) (rec : Nat → Int32 → Int32 → (Nat → Nat → Int32) → (Nat → Nat → Int64) → Option (Int32 × (Nat → Nat → Int32) × (Nat → Nat → Int64))) (l1 : Int32) (l2 : Int32) (I : Nat → Nat → Int32) (J : Nat → Nat → Int64) : Option (Int32 × (Nat → Nat → Int32) × (Nat → Nat → Int64)) := if ¬ l1 = 119 then (if ¬ l1 = 120 then ((zf_X11_performNext N (l1 - 48) I J).bind fun r1 => if r1.1 = 0 ∨ r1.1 = 1 then (some (r1.1, r1.2.1, J)) else none) else (if ¬ (zv_X11_refusalToDrop I (l2 - 97)) = 0 then (if (0 : Int32) = 0 then (some (0, I, J)) else (some (0, zz_dropm I (l2 - 97), J))) else (if (1 : Int32) = 0 then (some (1, I, J)) else (some (1, zz_dropm I (l2 - 97), J))))) else (some (1, zz_u I 8 0 ((I 8 0) + (l2 - 48)), J))
def zl_X11_act (N : Nat) : Nat → Nat → Int32 → Int32 → (Nat → Nat → Int32) → (Nat → Nat → Int64) → Option (Int32 × (Nat → Nat → Int32) × (Nat → Nat → Int64))
  | 0 => fun _ _ _ _ _ => none
  | n + 1 => fun pc l1 l2 I J => if pc = 0 then zb_X11_act_0 N (zl_X11_act N n) l1 l2 I J else none
theorem ze_X11_act_0 (N : Nat) (n : Nat) (l1 : Int32) (l2 : Int32) (I : Nat → Nat → Int32) (J : Nat → Nat → Int64) : zl_X11_act N (n+1) 0 l1 l2 I J = zb_X11_act_0 N (zl_X11_act N n) l1 l2 I J := by
  show (if 0 = 0 then zb_X11_act_0 N (zl_X11_act N n) l1 l2 I J else none) = _
  rw [if_pos rfl]
def zf_X11_act (N : Nat) (l1 : Int32) (l2 : Int32) (I : Nat → Nat → Int32) (J : Nat → Nat → Int64) : Option (Int32 × (Nat → Nat → Int32) × (Nat → Nat → Int64)) := zl_X11_act N N 0 l1 l2 I J
theorem zq_X11_act (F : zz_F) (d N : Nat) : ∀ n : Nat, (∀ (l1 : Int32) (l2 : Int32) (I : Nat → Nat → Int32) (J : Nat → Nat → Int64) (r : Int32 × (Nat → Nat → Int32) × (Nat → Nat → Int64)), zl_X11_act N n 0 l1 l2 I J = some r → zz_run (d+5) 195 0 [some (.ref 2), some (.int l1), some (.int l2), none, none] [] (zz_S F I J) (some (.int r.1)) (zz_S F (r.2.1) J)) := by
  intro n
  induction n with
  | zero => exact fun _ _ _ _ _ h => zz_no h
  | succ n ih =>
    have ih0 := ih
    skip
    · intro l1 l2 I J r hr
      rw [ze_X11_act_0] at hr
      unfold zb_X11_act_0 at hr
      refine zs_195_0 ?_
      refine And.intro (fun (h1 : ¬ l1 = 119) => ?_) (fun (h1 : ¬ (¬ l1 = 119)) => ?_)
      · rw [if_pos h1] at hr
        show zz_run _ 195 24 [some (.ref 2), some (.int l1), some (.int l2), none, none] [] (zz_S F I J) _ _
        refine zs_195_24 ?_
        refine And.intro (fun (h2 : ¬ l1 = 120) => ?_) (fun (h2 : ¬ (¬ l1 = 120)) => ?_)
        · rw [if_pos h2] at hr
          show zz_run _ 195 66 [some (.ref 2), some (.int l1), some (.int l2), none, none] [] (zz_S F I J) _ _
          refine zs_195_66 ?_
          refine And.intro (rfl) (And.intro (Nat.le_of_ble_eq_true rfl) (And.intro (Nat.le_of_ble_eq_true rfl) (And.intro (Nat.le_of_ble_eq_true rfl) ?_)))
          obtain ⟨r1, cr1, hr⟩ := Option.bind_eq_some_iff.mp hr
          refine Exists.intro _ (Exists.intro _ (And.intro (zr_X11_performNext F I J d N (l1 - 48) r1 cr1) ?_))
          have g2 : r1.1 = 0 ∨ r1.1 = 1 := zz_g hr
          replace hr := zz_gt hr
          replace hr := Option.some.inj hr
          subst hr
          exact And.intro rfl (And.intro rfl (zz_nb g2))
        · rw [if_neg h2] at hr
          refine And.intro (rfl) (And.intro (Nat.le_of_ble_eq_true rfl) (And.intro (Nat.le_of_ble_eq_true rfl) (And.intro (Nat.le_of_ble_eq_true rfl) ?_)))
          refine Exists.intro _ (Exists.intro _ (And.intro (zr_X11_refusalToDrop F I J (d+3) (l2 - 97)) ?_))
          refine And.intro (fun (h3 : ¬ (zv_X11_refusalToDrop I (l2 - 97)) = 0) => ?_) (fun (h3 : ¬ (¬ (zv_X11_refusalToDrop I (l2 - 97)) = 0)) => ?_)
          · rw [if_pos h3] at hr
            show zz_run _ 195 47 [some (.ref 2), some (.int l1), some (.int l2), some (.int (l2 - 97)), none] [] (zz_S F I J) _ _
            refine zs_195_47 ?_
            show zz_run _ 195 48 [some (.ref 2), some (.int l1), some (.int l2), some (.int (l2 - 97)), none] [.int 0] (zz_S F I J) _ _
            refine zs_195_48 ?_
            refine And.intro (fun (h4 : (0 : Int32) = 0) => ?_) (fun (h4 : ¬ ((0 : Int32) = 0)) => ?_)
            · rw [if_pos h4] at hr
              show zz_run _ 195 63 [some (.ref 2), some (.int l1), some (.int l2), some (.int (l2 - 97)), some (.int 0)] [] (zz_S F I J) _ _
              refine zs_195_63 ?_
              replace hr := Option.some.inj hr
              subst hr
              exact And.intro rfl (And.intro rfl rfl)
            · rw [if_neg h4] at hr
              refine And.intro (rfl) (And.intro (rfl) (And.intro (Nat.le_of_ble_eq_true rfl) (And.intro (Nat.le_of_ble_eq_true rfl) (And.intro (Nat.le_of_ble_eq_true rfl) ?_))))
              refine Exists.intro _ (Exists.intro _ (And.intro (zr_drop F I J (d+4) (l2 - 97)) ?_))
              show zz_run _ 195 63 [some (.ref 2), some (.int l1), some (.int l2), some (.int (l2 - 97)), some (.int 0)] [] (zz_S F (zz_dropm I (l2 - 97)) J) _ _
              refine zs_195_63 ?_
              replace hr := Option.some.inj hr
              subst hr
              exact And.intro rfl (And.intro rfl rfl)
          · rw [if_neg h3] at hr
            show zz_run _ 195 48 [some (.ref 2), some (.int l1), some (.int l2), some (.int (l2 - 97)), none] [.int 1] (zz_S F I J) _ _
            refine zs_195_48 ?_
            refine And.intro (fun (h5 : (1 : Int32) = 0) => ?_) (fun (h5 : ¬ ((1 : Int32) = 0)) => ?_)
            · rw [if_pos h5] at hr
              show zz_run _ 195 63 [some (.ref 2), some (.int l1), some (.int l2), some (.int (l2 - 97)), some (.int 1)] [] (zz_S F I J) _ _
              refine zs_195_63 ?_
              replace hr := Option.some.inj hr
              subst hr
              exact And.intro rfl (And.intro rfl rfl)
            · rw [if_neg h5] at hr
              refine And.intro (rfl) (And.intro (rfl) (And.intro (Nat.le_of_ble_eq_true rfl) (And.intro (Nat.le_of_ble_eq_true rfl) (And.intro (Nat.le_of_ble_eq_true rfl) ?_))))
              refine Exists.intro _ (Exists.intro _ (And.intro (zr_drop F I J (d+4) (l2 - 97)) ?_))
              show zz_run _ 195 63 [some (.ref 2), some (.int l1), some (.int l2), some (.int (l2 - 97)), some (.int 1)] [] (zz_S F (zz_dropm I (l2 - 97)) J) _ _
              refine zs_195_63 ?_
              replace hr := Option.some.inj hr
              subst hr
              exact And.intro rfl (And.intro rfl rfl)
      · rw [if_neg h1] at hr
        refine And.intro (rfl) (And.intro (rfl) (And.intro (rfl) (And.intro (rfl) (And.intro (rfl) (And.intro (And.intro rfl rfl) ?_)))))
        replace hr := Option.some.inj hr
        subst hr
        exact And.intro rfl (And.intro rfl rfl)
theorem zr_X11_act (F : zz_F) (I : Nat → Nat → Int32) (J : Nat → Nat → Int64) (d N : Nat) (l1 : Int32) (l2 : Int32) (r : Int32 × (Nat → Nat → Int32) × (Nat → Nat → Int64)) (h : zf_X11_act N l1 l2 I J = some r) : zz_run (d+5) 195 0 [some (.ref 2), some (.int l1), some (.int l2), none, none] [] (zz_S F I J) (some (.int r.1)) (zz_S F (r.2.1) J) := (zq_X11_act F d N N) l1 l2 I J r h
def zb_X12_readRule_0 (N : Nat) (rec : Nat → (Nat → Nat → Int32) → (Nat → Nat → Int64) → zz_F → Option (Int32 × (Nat → Nat → Int32) × (Nat → Nat → Int64) × zz_F))  (I : Nat → Nat → Int32) (J : Nat → Nat → Int64) (F : zz_F) : Option (Int32 × (Nat → Nat → Int32) × (Nat → Nat → Int64) × zz_F) := (zf_X12_beginText N 40 I J F).bind fun r1 => if (r1.2.1 52 9) ≤ 0 then (if (zv_X12_wasRight (zz_u r1.2.1 52 17 0)) = 0 ∨ (zv_X12_wasRight (zz_u r1.2.1 52 17 0)) = 1 then (some (zv_X12_wasRight (zz_u r1.2.1 52 17 0), zw_X12_wasRight (zz_u r1.2.1 52 17 0), r1.2.2.1, r1.2.2.2)) else none) else ((zf_X12_held_ N 0 (zz_u r1.2.1 52 17 0) r1.2.2.1 r1.2.2.2).bind fun r3 => if (zv_X12_wasRight r3.2.1) = 0 ∨ (zv_X12_wasRight r3.2.1) = 1 then (some (zv_X12_wasRight r3.2.1, zw_X12_wasRight r3.2.1, r3.2.2.1, r3.2.2.2)) else none)
def zl_X12_readRule (N : Nat) : Nat → Nat → (Nat → Nat → Int32) → (Nat → Nat → Int64) → zz_F → Option (Int32 × (Nat → Nat → Int32) × (Nat → Nat → Int64) × zz_F)
  | 0 => fun _ _ _ _ => none
  | n + 1 => fun pc  I J F => if pc = 0 then zb_X12_readRule_0 N (zl_X12_readRule N n)  I J F else none
theorem ze_X12_readRule_0 (N : Nat) (n : Nat)  (I : Nat → Nat → Int32) (J : Nat → Nat → Int64) (F : zz_F) : zl_X12_readRule N (n+1) 0  I J F = zb_X12_readRule_0 N (zl_X12_readRule N n)  I J F := by
  show (if 0 = 0 then zb_X12_readRule_0 N (zl_X12_readRule N n)  I J F else none) = _
  rw [if_pos rfl]
def zf_X12_readRule (N : Nat)  (I : Nat → Nat → Int32) (J : Nat → Nat → Int64) (F : zz_F) : Option (Int32 × (Nat → Nat → Int32) × (Nat → Nat → Int64) × zz_F) := zl_X12_readRule N N 0  I J F
theorem zq_X12_readRule (d N : Nat) : ∀ n : Nat, (∀  (I : Nat → Nat → Int32) (J : Nat → Nat → Int64) (F : zz_F) (r : Int32 × (Nat → Nat → Int32) × (Nat → Nat → Int64) × zz_F), zl_X12_readRule N n 0  I J F = some r → zz_run (d+68) 229 0 [some (.ref 52)] [] (zz_S F I J) (some (.int r.1)) (zz_S (r.2.2.2) (r.2.1) (r.2.2.1))) := by
  intro n
  induction n with
  | zero => exact fun _ _ _ _ h => zz_no h
  | succ n ih =>
    have ih0 := ih
    skip
    · intro  I J F r hr
      rw [ze_X12_readRule_0] at hr
      unfold zb_X12_readRule_0 at hr
      refine zs_229_0 ?_
      refine And.intro (rfl) (And.intro (Nat.le_of_ble_eq_true rfl) (And.intro (Nat.le_of_ble_eq_true rfl) (And.intro (Nat.le_of_ble_eq_true rfl) ?_)))
      obtain ⟨r1, cr1, hr⟩ := Option.bind_eq_some_iff.mp hr
      refine Exists.intro _ (Exists.intro _ (And.intro (zr_X12_beginText (d+66) N 40 I J F r1 cr1) ?_))
      refine And.intro (rfl) (And.intro (rfl) (And.intro (And.intro rfl rfl) (And.intro (rfl) (And.intro (fun (h1 : (r1.2.1 52 9) ≤ 0) => ?_) (fun (h1 : ¬ ((r1.2.1 52 9) ≤ 0)) => ?_)))))
      · rw [if_pos h1] at hr
        show zz_run _ 229 24 [some (.ref 52)] [] (zz_S r1.2.2.2 (zz_u r1.2.1 52 17 0) r1.2.2.1) _ _
        refine zs_229_24 ?_
        refine And.intro (rfl) (And.intro (Nat.le_of_ble_eq_true rfl) (And.intro (Nat.le_of_ble_eq_true rfl) (And.intro (Nat.le_of_ble_eq_true rfl) ?_)))
        refine Exists.intro _ (Exists.intro _ (And.intro (zr_X12_wasRight r1.2.2.2 (zz_u r1.2.1 52 17 0) r1.2.2.1 (d+65) ) ?_))
        have g2 : (zv_X12_wasRight (zz_u r1.2.1 52 17 0)) = 0 ∨ (zv_X12_wasRight (zz_u r1.2.1 52 17 0)) = 1 := zz_g hr
        replace hr := zz_gt hr
        replace hr := Option.some.inj hr
        subst hr
        exact And.intro rfl (And.intro rfl (zz_nb g2))
      · rw [if_neg h1] at hr
        refine And.intro (rfl) (And.intro (Nat.le_of_ble_eq_true rfl) (And.intro (Nat.le_of_ble_eq_true rfl) (And.intro (Nat.le_of_ble_eq_true rfl) ?_)))
        obtain ⟨r3, cr3, hr⟩ := Option.bind_eq_some_iff.mp hr
        refine Exists.intro _ (Exists.intro _ (And.intro (zr_X12_held_ d N 0 (zz_u r1.2.1 52 17 0) r1.2.2.1 r1.2.2.2 r3 cr3) ?_))
        refine And.intro (rfl) ?_
        show zz_run _ 229 24 [some (.ref 52)] [] (zz_S r3.2.2.2 r3.2.1 r3.2.2.1) _ _
        refine zs_229_24 ?_
        refine And.intro (rfl) (And.intro (Nat.le_of_ble_eq_true rfl) (And.intro (Nat.le_of_ble_eq_true rfl) (And.intro (Nat.le_of_ble_eq_true rfl) ?_)))
        refine Exists.intro _ (Exists.intro _ (And.intro (zr_X12_wasRight r3.2.2.2 r3.2.1 r3.2.2.1 (d+65) ) ?_))
        have g4 : (zv_X12_wasRight r3.2.1) = 0 ∨ (zv_X12_wasRight r3.2.1) = 1 := zz_g hr
        replace hr := zz_gt hr
        replace hr := Option.some.inj hr
        subst hr
        exact And.intro rfl (And.intro rfl (zz_nb g4))
theorem zr_X12_readRule (d N : Nat)  (I : Nat → Nat → Int32) (J : Nat → Nat → Int64) (F : zz_F) (r : Int32 × (Nat → Nat → Int32) × (Nat → Nat → Int64) × zz_F) (h : zf_X12_readRule N  I J F = some r) : zz_run (d+68) 229 0 [some (.ref 52)] [] (zz_S F I J) (some (.int r.1)) (zz_S (r.2.2.2) (r.2.1) (r.2.2.1)) := (zq_X12_readRule d N N)  I J F r h
