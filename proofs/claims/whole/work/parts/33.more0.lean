/-! printed by wip/whole/loop2.py -/
def zb_X4_tryCuts_0 (N : Nat) (call : Nat → Int32 → Int32 → Int32 → Int32 → Int32 → (Nat → Nat → Int32) → (Nat → Nat → Int64) → Option (Int32 × (Nat → Nat → Int32) × (Nat → Nat → Int64))) (rec : Nat → Int32 → Int32 → Int32 → Int32 → Int32 → (Nat → Nat → Int32) → (Nat → Nat → Int64) → Option (Int32 × (Nat → Nat → Int32) × (Nat → Nat → Int64))) (l1 : Int32) (l2 : Int32) (l3 : Int32) (l4 : Int32) (l5 : Int32) (I : Nat → Nat → Int32) (J : Nat → Nat → Int64) : Option (Int32 × (Nat → Nat → Int32) × (Nat → Nat → Int64)) := if l4 < (I 41 12) then (rec 33 l1 l2 l3 l4 l5 I J) else (if ¬ l4 = (I 41 12) then (rec 37 l1 l2 l3 l4 l5 I J) else (if (I 41 13) ≤ (zv_J6_bitCount l3) then (rec 37 l1 l2 l3 l4 l5 I J) else (rec 33 l1 l2 l3 l4 l5 I J)))
def zb_X4_tryCuts_33 (N : Nat) (call : Nat → Int32 → Int32 → Int32 → Int32 → Int32 → (Nat → Nat → Int32) → (Nat → Nat → Int64) → Option (Int32 × (Nat → Nat → Int32) × (Nat → Nat → Int64))) (rec : Nat → Int32 → Int32 → Int32 → Int32 → Int32 → (Nat → Nat → Int32) → (Nat → Nat → Int64) → Option (Int32 × (Nat → Nat → Int32) × (Nat → Nat → Int64))) (l1 : Int32) (l2 : Int32) (l3 : Int32) (l4 : Int32) (l5 : Int32) (I : Nat → Nat → Int32) (J : Nat → Nat → Int64) : Option (Int32 × (Nat → Nat → Int32) × (Nat → Nat → Int64)) := if (1 : Int32) = 0 then (rec 54 0 0 0 0 0 I J) else (if l5 ≤ (I 41 14) then (if 0 ≤ l2 then (if ¬ (l1 &&& ((1 : Int32) <<< (l2 &&& 31))) = 0 then ((call 0 l1 (l2 - 1) l3 l4 ((l5 + (I 41 15)) + (zz_f I l2 1)) I J).bind fun r5 => (call 0 l1 (l2 - 1) (l3 ||| ((1 : Int32) <<< (l2 &&& 31))) (l4 + (zz_f r5.2.1 l2 6)) l5 r5.2.1 r5.2.2).bind fun r6 => some (0, r6.2.1, r6.2.2)) else ((call 0 l1 (l2 - 1) l3 l4 l5 I J).bind fun r7 => some (0, r7.2.1, r7.2.2))) else ((zf_X4_takeCut N l1 l3 l4 I J).bind fun r8 => some (0, r8.2.1, J))) else (rec 54 0 0 0 0 0 I J))
def zb_X4_tryCuts_37 (N : Nat) (call : Nat → Int32 → Int32 → Int32 → Int32 → Int32 → (Nat → Nat → Int32) → (Nat → Nat → Int64) → Option (Int32 × (Nat → Nat → Int32) × (Nat → Nat → Int64))) (rec : Nat → Int32 → Int32 → Int32 → Int32 → Int32 → (Nat → Nat → Int32) → (Nat → Nat → Int64) → Option (Int32 × (Nat → Nat → Int32) × (Nat → Nat → Int64))) (l1 : Int32) (l2 : Int32) (l3 : Int32) (l4 : Int32) (l5 : Int32) (I : Nat → Nat → Int32) (J : Nat → Nat → Int64) : Option (Int32 × (Nat → Nat → Int32) × (Nat → Nat → Int64)) := if (0 : Int32) = 0 then (rec 54 0 0 0 0 0 I J) else (if l5 ≤ (I 41 14) then (if 0 ≤ l2 then (if ¬ (l1 &&& ((1 : Int32) <<< (l2 &&& 31))) = 0 then ((call 0 l1 (l2 - 1) l3 l4 ((l5 + (I 41 15)) + (zz_f I l2 1)) I J).bind fun r1 => (call 0 l1 (l2 - 1) (l3 ||| ((1 : Int32) <<< (l2 &&& 31))) (l4 + (zz_f r1.2.1 l2 6)) l5 r1.2.1 r1.2.2).bind fun r2 => some (0, r2.2.1, r2.2.2)) else ((call 0 l1 (l2 - 1) l3 l4 l5 I J).bind fun r3 => some (0, r3.2.1, r3.2.2))) else ((zf_X4_takeCut N l1 l3 l4 I J).bind fun r4 => some (0, r4.2.1, J))) else (rec 54 0 0 0 0 0 I J))
def zb_X4_tryCuts_54 (N : Nat) (call : Nat → Int32 → Int32 → Int32 → Int32 → Int32 → (Nat → Nat → Int32) → (Nat → Nat → Int64) → Option (Int32 × (Nat → Nat → Int32) × (Nat → Nat → Int64))) (rec : Nat → Int32 → Int32 → Int32 → Int32 → Int32 → (Nat → Nat → Int32) → (Nat → Nat → Int64) → Option (Int32 × (Nat → Nat → Int32) × (Nat → Nat → Int64))) (l1 : Int32) (l2 : Int32) (l3 : Int32) (l4 : Int32) (l5 : Int32) (I : Nat → Nat → Int32) (J : Nat → Nat → Int64) : Option (Int32 × (Nat → Nat → Int32) × (Nat → Nat → Int64)) := some (0, I, J)
def zl_X4_tryCuts (N : Nat) (call : Nat → Int32 → Int32 → Int32 → Int32 → Int32 → (Nat → Nat → Int32) → (Nat → Nat → Int64) → Option (Int32 × (Nat → Nat → Int32) × (Nat → Nat → Int64))) : Nat → Nat → Int32 → Int32 → Int32 → Int32 → Int32 → (Nat → Nat → Int32) → (Nat → Nat → Int64) → Option (Int32 × (Nat → Nat → Int32) × (Nat → Nat → Int64))
  | 0 => fun _ _ _ _ _ _ _ _ => none
  | n + 1 => fun pc l1 l2 l3 l4 l5 I J => if pc = 0 then zb_X4_tryCuts_0 N call (zl_X4_tryCuts N call n) l1 l2 l3 l4 l5 I J else (if pc = 33 then zb_X4_tryCuts_33 N call (zl_X4_tryCuts N call n) l1 l2 l3 l4 l5 I J else (if pc = 37 then zb_X4_tryCuts_37 N call (zl_X4_tryCuts N call n) l1 l2 l3 l4 l5 I J else (if pc = 54 then zb_X4_tryCuts_54 N call (zl_X4_tryCuts N call n) l1 l2 l3 l4 l5 I J else none)))
theorem ze_X4_tryCuts_0 (N : Nat) (call : Nat → Int32 → Int32 → Int32 → Int32 → Int32 → (Nat → Nat → Int32) → (Nat → Nat → Int64) → Option (Int32 × (Nat → Nat → Int32) × (Nat → Nat → Int64))) (n : Nat) (l1 : Int32) (l2 : Int32) (l3 : Int32) (l4 : Int32) (l5 : Int32) (I : Nat → Nat → Int32) (J : Nat → Nat → Int64) : zl_X4_tryCuts N call (n+1) 0 l1 l2 l3 l4 l5 I J = zb_X4_tryCuts_0 N call (zl_X4_tryCuts N call n) l1 l2 l3 l4 l5 I J := by
  show (if 0 = 0 then zb_X4_tryCuts_0 N call (zl_X4_tryCuts N call n) l1 l2 l3 l4 l5 I J else (if 0 = 33 then zb_X4_tryCuts_33 N call (zl_X4_tryCuts N call n) l1 l2 l3 l4 l5 I J else (if 0 = 37 then zb_X4_tryCuts_37 N call (zl_X4_tryCuts N call n) l1 l2 l3 l4 l5 I J else (if 0 = 54 then zb_X4_tryCuts_54 N call (zl_X4_tryCuts N call n) l1 l2 l3 l4 l5 I J else none)))) = _
  rw [if_pos rfl]
theorem ze_X4_tryCuts_33 (N : Nat) (call : Nat → Int32 → Int32 → Int32 → Int32 → Int32 → (Nat → Nat → Int32) → (Nat → Nat → Int64) → Option (Int32 × (Nat → Nat → Int32) × (Nat → Nat → Int64))) (n : Nat) (l1 : Int32) (l2 : Int32) (l3 : Int32) (l4 : Int32) (l5 : Int32) (I : Nat → Nat → Int32) (J : Nat → Nat → Int64) : zl_X4_tryCuts N call (n+1) 33 l1 l2 l3 l4 l5 I J = zb_X4_tryCuts_33 N call (zl_X4_tryCuts N call n) l1 l2 l3 l4 l5 I J := by
  show (if 33 = 0 then zb_X4_tryCuts_0 N call (zl_X4_tryCuts N call n) l1 l2 l3 l4 l5 I J else (if 33 = 33 then zb_X4_tryCuts_33 N call (zl_X4_tryCuts N call n) l1 l2 l3 l4 l5 I J else (if 33 = 37 then zb_X4_tryCuts_37 N call (zl_X4_tryCuts N call n) l1 l2 l3 l4 l5 I J else (if 33 = 54 then zb_X4_tryCuts_54 N call (zl_X4_tryCuts N call n) l1 l2 l3 l4 l5 I J else none)))) = _
  rw [if_neg (by decide), if_pos rfl]
theorem ze_X4_tryCuts_37 (N : Nat) (call : Nat → Int32 → Int32 → Int32 → Int32 → Int32 → (Nat → Nat → Int32) → (Nat → Nat → Int64) → Option (Int32 × (Nat → Nat → Int32) × (Nat → Nat → Int64))) (n : Nat) (l1 : Int32) (l2 : Int32) (l3 : Int32) (l4 : Int32) (l5 : Int32) (I : Nat → Nat → Int32) (J : Nat → Nat → Int64) : zl_X4_tryCuts N call (n+1) 37 l1 l2 l3 l4 l5 I J = zb_X4_tryCuts_37 N call (zl_X4_tryCuts N call n) l1 l2 l3 l4 l5 I J := by
  show (if 37 = 0 then zb_X4_tryCuts_0 N call (zl_X4_tryCuts N call n) l1 l2 l3 l4 l5 I J else (if 37 = 33 then zb_X4_tryCuts_33 N call (zl_X4_tryCuts N call n) l1 l2 l3 l4 l5 I J else (if 37 = 37 then zb_X4_tryCuts_37 N call (zl_X4_tryCuts N call n) l1 l2 l3 l4 l5 I J else (if 37 = 54 then zb_X4_tryCuts_54 N call (zl_X4_tryCuts N call n) l1 l2 l3 l4 l5 I J else none)))) = _
  rw [if_neg (by decide), if_neg (by decide), if_pos rfl]
theorem ze_X4_tryCuts_54 (N : Nat) (call : Nat → Int32 → Int32 → Int32 → Int32 → Int32 → (Nat → Nat → Int32) → (Nat → Nat → Int64) → Option (Int32 × (Nat → Nat → Int32) × (Nat → Nat → Int64))) (n : Nat) (l1 : Int32) (l2 : Int32) (l3 : Int32) (l4 : Int32) (l5 : Int32) (I : Nat → Nat → Int32) (J : Nat → Nat → Int64) : zl_X4_tryCuts N call (n+1) 54 l1 l2 l3 l4 l5 I J = zb_X4_tryCuts_54 N call (zl_X4_tryCuts N call n) l1 l2 l3 l4 l5 I J := by
  show (if 54 = 0 then zb_X4_tryCuts_0 N call (zl_X4_tryCuts N call n) l1 l2 l3 l4 l5 I J else (if 54 = 33 then zb_X4_tryCuts_33 N call (zl_X4_tryCuts N call n) l1 l2 l3 l4 l5 I J else (if 54 = 37 then zb_X4_tryCuts_37 N call (zl_X4_tryCuts N call n) l1 l2 l3 l4 l5 I J else (if 54 = 54 then zb_X4_tryCuts_54 N call (zl_X4_tryCuts N call n) l1 l2 l3 l4 l5 I J else none)))) = _
  rw [if_neg (by decide), if_neg (by decide), if_neg (by decide), if_pos rfl]
def zf_X4_tryCuts (N : Nat) (call : Nat → Int32 → Int32 → Int32 → Int32 → Int32 → (Nat → Nat → Int32) → (Nat → Nat → Int64) → Option (Int32 × (Nat → Nat → Int32) × (Nat → Nat → Int64))) (l1 : Int32) (l2 : Int32) (l3 : Int32) (l4 : Int32) (l5 : Int32) (I : Nat → Nat → Int32) (J : Nat → Nat → Int64) : Option (Int32 × (Nat → Nat → Int32) × (Nat → Nat → Int64)) := zl_X4_tryCuts N call N 0 l1 l2 l3 l4 l5 I J
theorem zq_X4_tryCuts (F : zz_F) (d N : Nat) (call : Nat → Int32 → Int32 → Int32 → Int32 → Int32 → (Nat → Nat → Int32) → (Nat → Nat → Int64) → Option (Int32 × (Nat → Nat → Int32) × (Nat → Nat → Int64))) (hc0 : ∀ (x0 : Int32) (x1 : Int32) (x2 : Int32) (x3 : Int32) (x4 : Int32) (I : Nat → Nat → Int32) (J : Nat → Nat → Int64) (r : Int32 × (Nat → Nat → Int32) × (Nat → Nat → Int64)), call 0 x0 x1 x2 x3 x4 I J = some r → zz_run (d+4) 75 0 [some (.ref 41), some (.int x0), some (.int x1), some (.int x2), some (.int x3), some (.int x4), none, none, none] [] (zz_S F I J) none (zz_S F r.2.1 r.2.2)) : ∀ n : Nat, (∀ (l1 : Int32) (l2 : Int32) (l3 : Int32) (l4 : Int32) (l5 : Int32) (I : Nat → Nat → Int32) (J : Nat → Nat → Int64) (r : Int32 × (Nat → Nat → Int32) × (Nat → Nat → Int64)), zl_X4_tryCuts N call n 0 l1 l2 l3 l4 l5 I J = some r → zz_run (d+5) 75 0 [some (.ref 41), some (.int l1), some (.int l2), some (.int l3), some (.int l4), some (.int l5), none, none, none] [] (zz_S F I J) none (zz_S F (r.2.1) (r.2.2))) ∧ (∀ (l1 : Int32) (l2 : Int32) (l3 : Int32) (l4 : Int32) (l5 : Int32) (I : Nat → Nat → Int32) (J : Nat → Nat → Int64) (r : Int32 × (Nat → Nat → Int32) × (Nat → Nat → Int64)), zl_X4_tryCuts N call n 33 l1 l2 l3 l4 l5 I J = some r → zz_run (d+5) 75 33 [some (.ref 41), some (.int l1), some (.int l2), some (.int l3), some (.int l4), some (.int l5), none, none, none] [] (zz_S F I J) none (zz_S F (r.2.1) (r.2.2))) ∧ (∀ (l1 : Int32) (l2 : Int32) (l3 : Int32) (l4 : Int32) (l5 : Int32) (I : Nat → Nat → Int32) (J : Nat → Nat → Int64) (r : Int32 × (Nat → Nat → Int32) × (Nat → Nat → Int64)), zl_X4_tryCuts N call n 37 l1 l2 l3 l4 l5 I J = some r → zz_run (d+5) 75 37 [some (.ref 41), some (.int l1), some (.int l2), some (.int l3), some (.int l4), some (.int l5), none, none, none] [] (zz_S F I J) none (zz_S F (r.2.1) (r.2.2))) ∧ (∀ (l1 : Int32) (l2 : Int32) (l3 : Int32) (l4 : Int32) (l5 : Int32) (I : Nat → Nat → Int32) (J : Nat → Nat → Int64) (r : Int32 × (Nat → Nat → Int32) × (Nat → Nat → Int64)), zl_X4_tryCuts N call n 54 l1 l2 l3 l4 l5 I J = some r → zz_run (d+5) 75 54 [some (.ref 41), none, none, none, none, none, none, none, none] [] (zz_S F I J) none (zz_S F (r.2.1) (r.2.2))) := by
  intro n
  induction n with
  | zero => exact ⟨fun _ _ _ _ _ _ _ _ h => zz_no h, fun _ _ _ _ _ _ _ _ h => zz_no h, fun _ _ _ _ _ _ _ _ h => zz_no h, fun _ _ _ _ _ _ _ _ h => zz_no h⟩
  | succ n ih =>
    obtain ⟨ih0, ih33, ih37, ih54⟩ := ih
    refine ⟨?_, ?_, ?_, ?_⟩
    · intro l1 l2 l3 l4 l5 I J r hr
      rw [ze_X4_tryCuts_0] at hr
      unfold zb_X4_tryCuts_0 at hr
      refine zs_75_0 ?_
      refine And.intro (Nat.le_of_ble_eq_true rfl) (And.intro (Nat.le_of_ble_eq_true rfl) (And.intro (Nat.le_of_ble_eq_true rfl) ?_))
      refine Exists.intro _ (Exists.intro _ (And.intro (zr_J6_bitCount F I J (d+4) l3) ?_))
      refine And.intro (rfl) (And.intro (fun (h1 : l4 < (I 41 12)) => ?_) (fun (h1 : ¬ (l4 < (I 41 12))) => ?_))
      · rw [if_pos h1] at hr
        exact zz_wk [true, true, true, true, true, true, false, false, false] rfl (ih33 _ _ _ _ _ _ _ _ hr)
      · rw [if_neg h1] at hr
        refine And.intro (rfl) (And.intro (fun (h2 : ¬ l4 = (I 41 12)) => ?_) (fun (h2 : ¬ (¬ l4 = (I 41 12))) => ?_))
        · rw [if_pos h2] at hr
          exact zz_wk [true, true, true, true, true, true, false, false, false] rfl (ih37 _ _ _ _ _ _ _ _ hr)
        · rw [if_neg h2] at hr
          refine And.intro (rfl) (And.intro (fun (h3 : (I 41 13) ≤ (zv_J6_bitCount l3)) => ?_) (fun (h3 : ¬ ((I 41 13) ≤ (zv_J6_bitCount l3))) => ?_))
          · rw [if_pos h3] at hr
            exact zz_wk [true, true, true, true, true, true, false, false, false] rfl (ih37 _ _ _ _ _ _ _ _ hr)
          · rw [if_neg h3] at hr
            exact zz_wk [true, true, true, true, true, true, false, false, false] rfl (ih33 _ _ _ _ _ _ _ _ hr)
    · intro l1 l2 l3 l4 l5 I J r hr
      rw [ze_X4_tryCuts_33] at hr
      unfold zb_X4_tryCuts_33 at hr
      refine zs_75_33 ?_
      show zz_run _ 75 38 [some (.ref 41), some (.int l1), some (.int l2), some (.int l3), some (.int l4), some (.int l5), none, none, none] [.int 1] (zz_S F I J) _ _
      refine zs_75_38 ?_
      refine And.intro (fun (h8 : (1 : Int32) = 0) => ?_) (fun (h8 : ¬ ((1 : Int32) = 0)) => ?_)
      · rw [if_pos h8] at hr
        exact zz_wk [true, false, false, false, false, false, false, false, false] rfl (ih54 _ _ _ _ _ _ _ _ hr)
      · rw [if_neg h8] at hr
        refine And.intro (rfl) (And.intro (fun (h9 : l5 ≤ (I 41 14)) => ?_) (fun (h9 : ¬ (l5 ≤ (I 41 14))) => ?_))
        · rw [if_pos h9] at hr
          show zz_run _ 75 55 [some (.ref 41), some (.int l1), some (.int l2), some (.int l3), some (.int l4), some (.int l5), none, some (.int 1), none] [] (zz_S F I J) _ _
          refine zs_75_55 ?_
          refine And.intro (fun (h10 : 0 ≤ l2) => ?_) (fun (h10 : ¬ (0 ≤ l2)) => ?_)
          · rw [if_pos h10] at hr
            show zz_run _ 75 68 [some (.ref 41), some (.int l1), some (.int l2), some (.int l3), some (.int l4), some (.int l5), none, some (.int 1), none] [] (zz_S F I J) _ _
            refine zs_75_68 ?_
            refine And.intro (fun (h11 : ¬ (l1 &&& ((1 : Int32) <<< (l2 &&& 31))) = 0) => ?_) (fun (h11 : ¬ (¬ (l1 &&& ((1 : Int32) <<< (l2 &&& 31))) = 0)) => ?_)
            · rw [if_pos h11] at hr
              show zz_run _ 75 94 [some (.ref 41), some (.int l1), some (.int l2), some (.int l3), some (.int l4), some (.int l5), none, some (.int 1), some (.int ((1 : Int32) <<< (l2 &&& 31)))] [] (zz_S F I J) _ _
              refine zs_75_94 ?_
              refine And.intro (rfl) (And.intro (rfl) (And.intro (rfl) (And.intro (Nat.le_of_ble_eq_true rfl) (And.intro (Nat.le_of_ble_eq_true rfl) (And.intro (Nat.le_of_ble_eq_true rfl) ?_)))))
              refine Exists.intro _ (Exists.intro _ (And.intro (zr_of F I J (d+4) l2 1) ?_))
              refine And.intro (rfl) (And.intro (Nat.le_of_ble_eq_true rfl) (And.intro (Nat.le_of_ble_eq_true rfl) (And.intro (Nat.le_of_ble_eq_true rfl) ?_)))
              obtain ⟨r5, cr5, hr⟩ := Option.bind_eq_some_iff.mp hr
              refine Exists.intro _ (Exists.intro _ (And.intro (hc0 l1 (l2 - 1) l3 l4 ((l5 + (I 41 15)) + (zz_f I l2 1)) I J r5 cr5) ?_))
              refine And.intro (rfl) (And.intro (rfl) (And.intro (Nat.le_of_ble_eq_true rfl) (And.intro (Nat.le_of_ble_eq_true rfl) (And.intro (Nat.le_of_ble_eq_true rfl) ?_))))
              refine Exists.intro _ (Exists.intro _ (And.intro (zr_of F r5.2.1 r5.2.2 (d+4) l2 6) ?_))
              refine And.intro (rfl) (And.intro (Nat.le_of_ble_eq_true rfl) (And.intro (Nat.le_of_ble_eq_true rfl) (And.intro (Nat.le_of_ble_eq_true rfl) ?_)))
              obtain ⟨r6, cr6, hr⟩ := Option.bind_eq_some_iff.mp hr
              refine Exists.intro _ (Exists.intro _ (And.intro (hc0 l1 (l2 - 1) (l3 ||| ((1 : Int32) <<< (l2 &&& 31))) (l4 + (zz_f r5.2.1 l2 6)) l5 r5.2.1 r5.2.2 r6 cr6) ?_))
              replace hr := Option.some.inj hr
              subst hr
              exact And.intro rfl (And.intro rfl rfl)
            · rw [if_neg h11] at hr
              refine And.intro (rfl) (And.intro (Nat.le_of_ble_eq_true rfl) (And.intro (Nat.le_of_ble_eq_true rfl) (And.intro (Nat.le_of_ble_eq_true rfl) ?_)))
              obtain ⟨r7, cr7, hr⟩ := Option.bind_eq_some_iff.mp hr
              refine Exists.intro _ (Exists.intro _ (And.intro (hc0 l1 (l2 - 1) l3 l4 l5 I J r7 cr7) ?_))
              replace hr := Option.some.inj hr
              subst hr
              exact And.intro rfl (And.intro rfl rfl)
          · rw [if_neg h10] at hr
            refine And.intro (rfl) (And.intro (Nat.le_of_ble_eq_true rfl) (And.intro (Nat.le_of_ble_eq_true rfl) (And.intro (Nat.le_of_ble_eq_true rfl) ?_)))
            obtain ⟨r8, cr8, hr⟩ := Option.bind_eq_some_iff.mp hr
            refine Exists.intro _ (Exists.intro _ (And.intro (zr_X4_takeCut F I J d N l1 l3 l4 r8 cr8) ?_))
            replace hr := Option.some.inj hr
            subst hr
            exact And.intro rfl (And.intro rfl rfl)
        · rw [if_neg h9] at hr
          exact zz_wk [true, false, false, false, false, false, false, false, false] rfl (ih54 _ _ _ _ _ _ _ _ hr)
    · intro l1 l2 l3 l4 l5 I J r hr
      rw [ze_X4_tryCuts_37] at hr
      unfold zb_X4_tryCuts_37 at hr
      refine zs_75_37 ?_
      show zz_run _ 75 38 [some (.ref 41), some (.int l1), some (.int l2), some (.int l3), some (.int l4), some (.int l5), none, none, none] [.int 0] (zz_S F I J) _ _
      refine zs_75_38 ?_
      refine And.intro (fun (h4 : (0 : Int32) = 0) => ?_) (fun (h4 : ¬ ((0 : Int32) = 0)) => ?_)
      · rw [if_pos h4] at hr
        exact zz_wk [true, false, false, false, false, false, false, false, false] rfl (ih54 _ _ _ _ _ _ _ _ hr)
      · rw [if_neg h4] at hr
        refine And.intro (rfl) (And.intro (fun (h5 : l5 ≤ (I 41 14)) => ?_) (fun (h5 : ¬ (l5 ≤ (I 41 14))) => ?_))
        · rw [if_pos h5] at hr
          show zz_run _ 75 55 [some (.ref 41), some (.int l1), some (.int l2), some (.int l3), some (.int l4), some (.int l5), none, some (.int 0), none] [] (zz_S F I J) _ _
          refine zs_75_55 ?_
          refine And.intro (fun (h6 : 0 ≤ l2) => ?_) (fun (h6 : ¬ (0 ≤ l2)) => ?_)
          · rw [if_pos h6] at hr
            show zz_run _ 75 68 [some (.ref 41), some (.int l1), some (.int l2), some (.int l3), some (.int l4), some (.int l5), none, some (.int 0), none] [] (zz_S F I J) _ _
            refine zs_75_68 ?_
            refine And.intro (fun (h7 : ¬ (l1 &&& ((1 : Int32) <<< (l2 &&& 31))) = 0) => ?_) (fun (h7 : ¬ (¬ (l1 &&& ((1 : Int32) <<< (l2 &&& 31))) = 0)) => ?_)
            · rw [if_pos h7] at hr
              show zz_run _ 75 94 [some (.ref 41), some (.int l1), some (.int l2), some (.int l3), some (.int l4), some (.int l5), none, some (.int 0), some (.int ((1 : Int32) <<< (l2 &&& 31)))] [] (zz_S F I J) _ _
              refine zs_75_94 ?_
              refine And.intro (rfl) (And.intro (rfl) (And.intro (rfl) (And.intro (Nat.le_of_ble_eq_true rfl) (And.intro (Nat.le_of_ble_eq_true rfl) (And.intro (Nat.le_of_ble_eq_true rfl) ?_)))))
              refine Exists.intro _ (Exists.intro _ (And.intro (zr_of F I J (d+4) l2 1) ?_))
              refine And.intro (rfl) (And.intro (Nat.le_of_ble_eq_true rfl) (And.intro (Nat.le_of_ble_eq_true rfl) (And.intro (Nat.le_of_ble_eq_true rfl) ?_)))
              obtain ⟨r1, cr1, hr⟩ := Option.bind_eq_some_iff.mp hr
              refine Exists.intro _ (Exists.intro _ (And.intro (hc0 l1 (l2 - 1) l3 l4 ((l5 + (I 41 15)) + (zz_f I l2 1)) I J r1 cr1) ?_))
              refine And.intro (rfl) (And.intro (rfl) (And.intro (Nat.le_of_ble_eq_true rfl) (And.intro (Nat.le_of_ble_eq_true rfl) (And.intro (Nat.le_of_ble_eq_true rfl) ?_))))
              refine Exists.intro _ (Exists.intro _ (And.intro (zr_of F r1.2.1 r1.2.2 (d+4) l2 6) ?_))
              refine And.intro (rfl) (And.intro (Nat.le_of_ble_eq_true rfl) (And.intro (Nat.le_of_ble_eq_true rfl) (And.intro (Nat.le_of_ble_eq_true rfl) ?_)))
              obtain ⟨r2, cr2, hr⟩ := Option.bind_eq_some_iff.mp hr
              refine Exists.intro _ (Exists.intro _ (And.intro (hc0 l1 (l2 - 1) (l3 ||| ((1 : Int32) <<< (l2 &&& 31))) (l4 + (zz_f r1.2.1 l2 6)) l5 r1.2.1 r1.2.2 r2 cr2) ?_))
              replace hr := Option.some.inj hr
              subst hr
              exact And.intro rfl (And.intro rfl rfl)
            · rw [if_neg h7] at hr
              refine And.intro (rfl) (And.intro (Nat.le_of_ble_eq_true rfl) (And.intro (Nat.le_of_ble_eq_true rfl) (And.intro (Nat.le_of_ble_eq_true rfl) ?_)))
              obtain ⟨r3, cr3, hr⟩ := Option.bind_eq_some_iff.mp hr
              refine Exists.intro _ (Exists.intro _ (And.intro (hc0 l1 (l2 - 1) l3 l4 l5 I J r3 cr3) ?_))
              replace hr := Option.some.inj hr
              subst hr
              exact And.intro rfl (And.intro rfl rfl)
          · rw [if_neg h6] at hr
            refine And.intro (rfl) (And.intro (Nat.le_of_ble_eq_true rfl) (And.intro (Nat.le_of_ble_eq_true rfl) (And.intro (Nat.le_of_ble_eq_true rfl) ?_)))
            obtain ⟨r4, cr4, hr⟩ := Option.bind_eq_some_iff.mp hr
            refine Exists.intro _ (Exists.intro _ (And.intro (zr_X4_takeCut F I J d N l1 l3 l4 r4 cr4) ?_))
            replace hr := Option.some.inj hr
            subst hr
            exact And.intro rfl (And.intro rfl rfl)
        · rw [if_neg h5] at hr
          exact zz_wk [true, false, false, false, false, false, false, false, false] rfl (ih54 _ _ _ _ _ _ _ _ hr)
    · intro l1 l2 l3 l4 l5 I J r hr
      rw [ze_X4_tryCuts_54] at hr
      unfold zb_X4_tryCuts_54 at hr
      refine zs_75_54 ?_
      replace hr := Option.some.inj hr
      subst hr
      exact And.intro rfl (And.intro rfl rfl)
theorem zr_X4_tryCuts (F : zz_F) (I : Nat → Nat → Int32) (J : Nat → Nat → Int64) (d N : Nat) (call : Nat → Int32 → Int32 → Int32 → Int32 → Int32 → (Nat → Nat → Int32) → (Nat → Nat → Int64) → Option (Int32 × (Nat → Nat → Int32) × (Nat → Nat → Int64))) (hc0 : ∀ (x0 : Int32) (x1 : Int32) (x2 : Int32) (x3 : Int32) (x4 : Int32) (I : Nat → Nat → Int32) (J : Nat → Nat → Int64) (r : Int32 × (Nat → Nat → Int32) × (Nat → Nat → Int64)), call 0 x0 x1 x2 x3 x4 I J = some r → zz_run (d+4) 75 0 [some (.ref 41), some (.int x0), some (.int x1), some (.int x2), some (.int x3), some (.int x4), none, none, none] [] (zz_S F I J) none (zz_S F r.2.1 r.2.2)) (l1 : Int32) (l2 : Int32) (l3 : Int32) (l4 : Int32) (l5 : Int32) (r : Int32 × (Nat → Nat → Int32) × (Nat → Nat → Int64)) (h : zf_X4_tryCuts N call l1 l2 l3 l4 l5 I J = some r) : zz_run (d+5) 75 0 [some (.ref 41), some (.int l1), some (.int l2), some (.int l3), some (.int l4), some (.int l5), none, none, none] [] (zz_S F I J) none (zz_S F (r.2.1) (r.2.2)) := (zq_X4_tryCuts F d N call hc0 N).1 l1 l2 l3 l4 l5 I J r h
def zg_cuts (N : Nat) : Nat → Nat → Int32 → Int32 → Int32 → Int32 → Int32 → (Nat → Nat → Int32) → (Nat → Nat → Int64) → Option (Int32 × (Nat → Nat → Int32) × (Nat → Nat → Int64))
  | 0 => fun _ _ _ _ _ _ _ _ => none
  | D + 1 => fun g x0 x1 x2 x3 x4 I J => if g = 0 then zf_X4_tryCuts N (zg_cuts N D) x0 x1 x2 x3 x4 I J else (none)
theorem zge_cuts_0 (N D : Nat) (x0 : Int32) (x1 : Int32) (x2 : Int32) (x3 : Int32) (x4 : Int32) (I : Nat → Nat → Int32) (J : Nat → Nat → Int64) : zg_cuts N (D+1) 0 x0 x1 x2 x3 x4 I J = zf_X4_tryCuts N (zg_cuts N D) x0 x1 x2 x3 x4 I J := by
  show (if 0 = 0 then zf_X4_tryCuts N (zg_cuts N D) x0 x1 x2 x3 x4 I J else (none)) = _
  rw [if_pos rfl]
theorem zgq_cuts (F : zz_F) (N : Nat) : ∀ (D d : Nat), (∀ (x0 : Int32) (x1 : Int32) (x2 : Int32) (x3 : Int32) (x4 : Int32) (I : Nat → Nat → Int32) (J : Nat → Nat → Int64) (r : Int32 × (Nat → Nat → Int32) × (Nat → Nat → Int64)), (zg_cuts N D) 0 x0 x1 x2 x3 x4 I J = some r → zz_run (d + D + 4) 75 0 [some (.ref 41), some (.int x0), some (.int x1), some (.int x2), some (.int x3), some (.int x4), none, none, none] [] (zz_S F I J) none (zz_S F r.2.1 r.2.2)) := by
  intro D
  induction D with
  | zero => intro d; exact fun _ _ _ _ _ _ _ _ h => zz_no h
  | succ D ih =>
    intro d
    have i0 := ih d
    skip
    · intro x0 x1 x2 x3 x4 I J r h
      rw [zge_cuts_0] at h
      exact zr_X4_tryCuts F I J (d + D) N _ i0 x0 x1 x2 x3 x4 r h
def zf_X4_tryCuts_ (N : Nat) (x0 : Int32) (x1 : Int32) (x2 : Int32) (x3 : Int32) (x4 : Int32) (I : Nat → Nat → Int32) (J : Nat → Nat → Int64) : Option (Int32 × (Nat → Nat → Int32) × (Nat → Nat → Int64)) := zg_cuts N 16 0 x0 x1 x2 x3 x4 I J
theorem zr_X4_tryCuts_ (F : zz_F) (I : Nat → Nat → Int32) (J : Nat → Nat → Int64) (d N : Nat) (x0 : Int32) (x1 : Int32) (x2 : Int32) (x3 : Int32) (x4 : Int32) (r : Int32 × (Nat → Nat → Int32) × (Nat → Nat → Int64)) (h : zf_X4_tryCuts_ N x0 x1 x2 x3 x4 I J = some r) : zz_run (d+20) 75 0 [some (.ref 41), some (.int x0), some (.int x1), some (.int x2), some (.int x3), some (.int x4), none, none, none] [] (zz_S F I J) none (zz_S F r.2.1 r.2.2) := (zgq_cuts F N 16 d) x0 x1 x2 x3 x4 I J r h
def zb_X12_common_0 (N : Nat) (call : Nat → Int64 → Int64 → (Nat → Nat → Int32) → (Nat → Nat → Int64) → Option (Int64 × (Nat → Nat → Int32) × (Nat → Nat → Int64))) (rec : Nat → Int64 → Int64 → (Nat → Nat → Int32) → (Nat → Nat → Int64) → Option (Int64 × (Nat → Nat → Int32) × (Nat → Nat → Int64))) (m0 : Int64) (m2 : Int64) (I : Nat → Nat → Int32) (J : Nat → Nat → Int64) : Option (Int64 × (Nat → Nat → Int32) × (Nat → Nat → Int64)) := if ¬ (lg_cmp m2 0) = 0 then (if ¬ m2 = 0 then ((call 0 m2 (m0 - m0 / m2 * m2) I J).bind fun r2 => some (r2.1, r2.2.1, r2.2.2)) else none) else (some (m0, I, J))
def zl_X12_common (N : Nat) (call : Nat → Int64 → Int64 → (Nat → Nat → Int32) → (Nat → Nat → Int64) → Option (Int64 × (Nat → Nat → Int32) × (Nat → Nat → Int64))) : Nat → Nat → Int64 → Int64 → (Nat → Nat → Int32) → (Nat → Nat → Int64) → Option (Int64 × (Nat → Nat → Int32) × (Nat → Nat → Int64))
  | 0 => fun _ _ _ _ _ => none
  | n + 1 => fun pc m0 m2 I J => if pc = 0 then zb_X12_common_0 N call (zl_X12_common N call n) m0 m2 I J else none
theorem ze_X12_common_0 (N : Nat) (call : Nat → Int64 → Int64 → (Nat → Nat → Int32) → (Nat → Nat → Int64) → Option (Int64 × (Nat → Nat → Int32) × (Nat → Nat → Int64))) (n : Nat) (m0 : Int64) (m2 : Int64) (I : Nat → Nat → Int32) (J : Nat → Nat → Int64) : zl_X12_common N call (n+1) 0 m0 m2 I J = zb_X12_common_0 N call (zl_X12_common N call n) m0 m2 I J := by
  show (if 0 = 0 then zb_X12_common_0 N call (zl_X12_common N call n) m0 m2 I J else none) = _
  rw [if_pos rfl]
def zf_X12_common (N : Nat) (call : Nat → Int64 → Int64 → (Nat → Nat → Int32) → (Nat → Nat → Int64) → Option (Int64 × (Nat → Nat → Int32) × (Nat → Nat → Int64))) (m0 : Int64) (m2 : Int64) (I : Nat → Nat → Int32) (J : Nat → Nat → Int64) : Option (Int64 × (Nat → Nat → Int32) × (Nat → Nat → Int64)) := zl_X12_common N call N 0 m0 m2 I J
theorem zq_X12_common (F : zz_F) (d N : Nat) (call : Nat → Int64 → Int64 → (Nat → Nat → Int32) → (Nat → Nat → Int64) → Option (Int64 × (Nat → Nat → Int32) × (Nat → Nat → Int64))) (hc0 : ∀ (x0 : Int64) (x1 : Int64) (I : Nat → Nat → Int32) (J : Nat → Nat → Int64) (r : Int64 × (Nat → Nat → Int32) × (Nat → Nat → Int64)), call 0 x0 x1 I J = some r → zz_run (d+0) 285 0 [some (.long x0), none, some (.long x1), none] [] (zz_S F I J) (some (.long r.1)) (zz_S F r.2.1 r.2.2)) : ∀ n : Nat, (∀ (m0 : Int64) (m2 : Int64) (I : Nat → Nat → Int32) (J : Nat → Nat → Int64) (r : Int64 × (Nat → Nat → Int32) × (Nat → Nat → Int64)), zl_X12_common N call n 0 m0 m2 I J = some r → zz_run (d+1) 285 0 [some (.long m0), none, some (.long m2), none] [] (zz_S F I J) (some (.long r.1)) (zz_S F (r.2.1) (r.2.2))) := by
  intro n
  induction n with
  | zero => exact fun _ _ _ _ _ h => zz_no h
  | succ n ih =>
    have ih0 := ih
    skip
    · intro m0 m2 I J r hr
      rw [ze_X12_common_0] at hr
      unfold zb_X12_common_0 at hr
      refine zs_285_0 ?_
      refine And.intro (fun (h1 : ¬ (lg_cmp m2 0) = 0) => ?_) (fun (h1 : ¬ (¬ (lg_cmp m2 0) = 0)) => ?_)
      · rw [if_pos h1] at hr
        show zz_run _ 285 10 [some (.long m0), none, some (.long m2), none] [] (zz_S F I J) _ _
        refine zs_285_10 ?_
        have g1 : ¬ m2 = 0 := zz_g hr
        replace hr := zz_gt hr
        refine And.intro (g1) (And.intro (Nat.le_of_ble_eq_true rfl) (And.intro (Nat.le_of_ble_eq_true rfl) (And.intro (Nat.le_of_ble_eq_true rfl) ?_)))
        obtain ⟨r2, cr2, hr⟩ := Option.bind_eq_some_iff.mp hr
        refine Exists.intro _ (Exists.intro _ (And.intro (hc0 m2 (m0 - m0 / m2 * m2) I J r2 cr2) ?_))
        show zz_run _ 285 17 [some (.long m0), none, some (.long m2), none] [.long r2.1] (zz_S F r2.2.1 r2.2.2) _ _
        refine zs_285_17 ?_
        replace hr := Option.some.inj hr
        subst hr
        exact And.intro rfl rfl
      · rw [if_neg h1] at hr
        show zz_run _ 285 17 [some (.long m0), none, some (.long m2), none] [.long m0] (zz_S F I J) _ _
        refine zs_285_17 ?_
        replace hr := Option.some.inj hr
        subst hr
        exact And.intro rfl rfl
theorem zr_X12_common (F : zz_F) (I : Nat → Nat → Int32) (J : Nat → Nat → Int64) (d N : Nat) (call : Nat → Int64 → Int64 → (Nat → Nat → Int32) → (Nat → Nat → Int64) → Option (Int64 × (Nat → Nat → Int32) × (Nat → Nat → Int64))) (hc0 : ∀ (x0 : Int64) (x1 : Int64) (I : Nat → Nat → Int32) (J : Nat → Nat → Int64) (r : Int64 × (Nat → Nat → Int32) × (Nat → Nat → Int64)), call 0 x0 x1 I J = some r → zz_run (d+0) 285 0 [some (.long x0), none, some (.long x1), none] [] (zz_S F I J) (some (.long r.1)) (zz_S F r.2.1 r.2.2)) (m0 : Int64) (m2 : Int64) (r : Int64 × (Nat → Nat → Int32) × (Nat → Nat → Int64)) (h : zf_X12_common N call m0 m2 I J = some r) : zz_run (d+1) 285 0 [some (.long m0), none, some (.long m2), none] [] (zz_S F I J) (some (.long r.1)) (zz_S F (r.2.1) (r.2.2)) := (zq_X12_common F d N call hc0 N) m0 m2 I J r h
def zg_common (N : Nat) : Nat → Nat → Int64 → Int64 → (Nat → Nat → Int32) → (Nat → Nat → Int64) → Option (Int64 × (Nat → Nat → Int32) × (Nat → Nat → Int64))
  | 0 => fun _ _ _ _ _ => none
  | D + 1 => fun g x0 x1 I J => if g = 0 then zf_X12_common N (zg_common N D) x0 x1 I J else (none)
theorem zge_common_0 (N D : Nat) (x0 : Int64) (x1 : Int64) (I : Nat → Nat → Int32) (J : Nat → Nat → Int64) : zg_common N (D+1) 0 x0 x1 I J = zf_X12_common N (zg_common N D) x0 x1 I J := by
  show (if 0 = 0 then zf_X12_common N (zg_common N D) x0 x1 I J else (none)) = _
  rw [if_pos rfl]
theorem zgq_common (F : zz_F) (N : Nat) : ∀ (D d : Nat), (∀ (x0 : Int64) (x1 : Int64) (I : Nat → Nat → Int32) (J : Nat → Nat → Int64) (r : Int64 × (Nat → Nat → Int32) × (Nat → Nat → Int64)), (zg_common N D) 0 x0 x1 I J = some r → zz_run (d + D + 0) 285 0 [some (.long x0), none, some (.long x1), none] [] (zz_S F I J) (some (.long r.1)) (zz_S F r.2.1 r.2.2)) := by
  intro D
  induction D with
  | zero => intro d; exact fun _ _ _ _ _ h => zz_no h
  | succ D ih =>
    intro d
    have i0 := ih d
    skip
    · intro x0 x1 I J r h
      rw [zge_common_0] at h
      exact zr_X12_common F I J (d + D) N _ i0 x0 x1 r h
def zf_X12_common_ (N : Nat) (x0 : Int64) (x1 : Int64) (I : Nat → Nat → Int32) (J : Nat → Nat → Int64) : Option (Int64 × (Nat → Nat → Int32) × (Nat → Nat → Int64)) := zg_common N 64 0 x0 x1 I J
theorem zr_X12_common_ (F : zz_F) (I : Nat → Nat → Int32) (J : Nat → Nat → Int64) (d N : Nat) (x0 : Int64) (x1 : Int64) (r : Int64 × (Nat → Nat → Int32) × (Nat → Nat → Int64)) (h : zf_X12_common_ N x0 x1 I J = some r) : zz_run (d+64) 285 0 [some (.long x0), none, some (.long x1), none] [] (zz_S F I J) (some (.long r.1)) (zz_S F r.2.1 r.2.2) := (zgq_common F N 64 d) x0 x1 I J r h
def zb_X1_takePlain_0 (N : Nat) (rec : Nat → (Nat → Nat → Int32) → (Nat → Nat → Int64) → Option (Int32 × (Nat → Nat → Int32) × (Nat → Nat → Int64)))  (I : Nat → Nat → Int32) (J : Nat → Nat → Int64) : Option (Int32 × (Nat → Nat → Int32) × (Nat → Nat → Int64)) := (zf_X1_takeCode__0 N (nI 7) I J).bind fun r1 => some (0, r1.2.1, J)
def zl_X1_takePlain (N : Nat) : Nat → Nat → (Nat → Nat → Int32) → (Nat → Nat → Int64) → Option (Int32 × (Nat → Nat → Int32) × (Nat → Nat → Int64))
  | 0 => fun _ _ _ => none
  | n + 1 => fun pc  I J => if pc = 0 then zb_X1_takePlain_0 N (zl_X1_takePlain N n)  I J else none
theorem ze_X1_takePlain_0 (N : Nat) (n : Nat)  (I : Nat → Nat → Int32) (J : Nat → Nat → Int64) : zl_X1_takePlain N (n+1) 0  I J = zb_X1_takePlain_0 N (zl_X1_takePlain N n)  I J := by
  show (if 0 = 0 then zb_X1_takePlain_0 N (zl_X1_takePlain N n)  I J else none) = _
  rw [if_pos rfl]
def zf_X1_takePlain (N : Nat)  (I : Nat → Nat → Int32) (J : Nat → Nat → Int64) : Option (Int32 × (Nat → Nat → Int32) × (Nat → Nat → Int64)) := zl_X1_takePlain N N 0  I J
theorem zq_X1_takePlain (F : zz_F) (d N : Nat) : ∀ n : Nat, (∀  (I : Nat → Nat → Int32) (J : Nat → Nat → Int64) (r : Int32 × (Nat → Nat → Int32) × (Nat → Nat → Int64)), zl_X1_takePlain N n 0  I J = some r → zz_run (d+2) 5 0 [some (.ref 28)] [] (zz_S F I J) none (zz_S F (r.2.1) J)) := by
  intro n
  induction n with
  | zero => exact fun _ _ _ h => zz_no h
  | succ n ih =>
    have ih0 := ih
    skip
    · intro  I J r hr
      rw [ze_X1_takePlain_0] at hr
      unfold zb_X1_takePlain_0 at hr
      refine zs_5_0 ?_
      refine And.intro (Nat.le_of_ble_eq_true rfl) (And.intro (Nat.le_of_ble_eq_true rfl) (And.intro (rfl) (And.intro (Nat.le_of_ble_eq_true rfl) (And.intro (Nat.le_of_ble_eq_true rfl) (And.intro (Nat.le_of_ble_eq_true rfl) ?_)))))
      obtain ⟨r1, cr1, hr⟩ := Option.bind_eq_some_iff.mp hr
      refine Exists.intro _ (Exists.intro _ (And.intro (zr_X1_takeCode__0 F I J d N (nI 7) r1 cr1) ?_))
      replace hr := Option.some.inj hr
      subst hr
      exact And.intro rfl (And.intro rfl rfl)
theorem zr_X1_takePlain (F : zz_F) (I : Nat → Nat → Int32) (J : Nat → Nat → Int64) (d N : Nat)  (r : Int32 × (Nat → Nat → Int32) × (Nat → Nat → Int64)) (h : zf_X1_takePlain N  I J = some r) : zz_run (d+2) 5 0 [some (.ref 28)] [] (zz_S F I J) none (zz_S F (r.2.1) J) := (zq_X1_takePlain F d N N)  I J r h
def zb_X1_takePlain_32_0 (N : Nat) (rec : Nat → (Nat → Nat → Int32) → (Nat → Nat → Int64) → Option (Int32 × (Nat → Nat → Int32) × (Nat → Nat → Int64)))  (I : Nat → Nat → Int32) (J : Nat → Nat → Int64) : Option (Int32 × (Nat → Nat → Int32) × (Nat → Nat → Int64)) := (zf_X1_takeCode_32__0 N (nI 7) I J).bind fun r1 => some (0, r1.2.1, J)
def zl_X1_takePlain_32 (N : Nat) : Nat → Nat → (Nat → Nat → Int32) → (Nat → Nat → Int64) → Option (Int32 × (Nat → Nat → Int32) × (Nat → Nat → Int64))
  | 0 => fun _ _ _ => none
  | n + 1 => fun pc  I J => if pc = 0 then zb_X1_takePlain_32_0 N (zl_X1_takePlain_32 N n)  I J else none
theorem ze_X1_takePlain_32_0 (N : Nat) (n : Nat)  (I : Nat → Nat → Int32) (J : Nat → Nat → Int64) : zl_X1_takePlain_32 N (n+1) 0  I J = zb_X1_takePlain_32_0 N (zl_X1_takePlain_32 N n)  I J := by
  show (if 0 = 0 then zb_X1_takePlain_32_0 N (zl_X1_takePlain_32 N n)  I J else none) = _
  rw [if_pos rfl]
def zf_X1_takePlain_32 (N : Nat)  (I : Nat → Nat → Int32) (J : Nat → Nat → Int64) : Option (Int32 × (Nat → Nat → Int32) × (Nat → Nat → Int64)) := zl_X1_takePlain_32 N N 0  I J
theorem zq_X1_takePlain_32 (F : zz_F) (d N : Nat) : ∀ n : Nat, (∀  (I : Nat → Nat → Int32) (J : Nat → Nat → Int64) (r : Int32 × (Nat → Nat → Int32) × (Nat → Nat → Int64)), zl_X1_takePlain_32 N n 0  I J = some r → zz_run (d+2) 5 0 [some (.ref 32)] [] (zz_S F I J) none (zz_S F (r.2.1) J)) := by
  intro n
  induction n with
  | zero => exact fun _ _ _ h => zz_no h
  | succ n ih =>
    have ih0 := ih
    skip
    · intro  I J r hr
      rw [ze_X1_takePlain_32_0] at hr
      unfold zb_X1_takePlain_32_0 at hr
      refine zs_5_0 ?_
      refine And.intro (Nat.le_of_ble_eq_true rfl) (And.intro (Nat.le_of_ble_eq_true rfl) (And.intro (rfl) (And.intro (Nat.le_of_ble_eq_true rfl) (And.intro (Nat.le_of_ble_eq_true rfl) (And.intro (Nat.le_of_ble_eq_true rfl) ?_)))))
      obtain ⟨r1, cr1, hr⟩ := Option.bind_eq_some_iff.mp hr
      refine Exists.intro _ (Exists.intro _ (And.intro (zr_X1_takeCode_32__0 F I J d N (nI 7) r1 cr1) ?_))
      replace hr := Option.some.inj hr
      subst hr
      exact And.intro rfl (And.intro rfl rfl)
theorem zr_X1_takePlain_32 (F : zz_F) (I : Nat → Nat → Int32) (J : Nat → Nat → Int64) (d N : Nat)  (r : Int32 × (Nat → Nat → Int32) × (Nat → Nat → Int64)) (h : zf_X1_takePlain_32 N  I J = some r) : zz_run (d+2) 5 0 [some (.ref 32)] [] (zz_S F I J) none (zz_S F (r.2.1) J) := (zq_X1_takePlain_32 F d N N)  I J r h
def zb_X2_atRest_0 (N : Nat) (rec : Nat → Int32 → Int32 → Int32 → Int32 → Int32 → Int32 → (Nat → Nat → Int32) → (Nat → Nat → Int64) → Option (Int32 × (Nat → Nat → Int32) × (Nat → Nat → Int64))) (l1 : Int32) (l2 : Int32) (l3 : Int32) (l4 : Int32) (l5 : Int32) (l6 : Int32) (I : Nat → Nat → Int32) (J : Nat → Nat → Int64) : Option (Int32 × (Nat → Nat → Int32) × (Nat → Nat → Int64)) := rec 19 l1 l2 l3 (zv_X2_share l1 l2 l3) (zv_X2_share l1 l3 l2) 0 I J
def zb_X2_atRest_19 (N : Nat) (rec : Nat → Int32 → Int32 → Int32 → Int32 → Int32 → Int32 → (Nat → Nat → Int32) → (Nat → Nat → Int64) → Option (Int32 × (Nat → Nat → Int32) × (Nat → Nat → Int64))) (l1 : Int32) (l2 : Int32) (l3 : Int32) (l4 : Int32) (l5 : Int32) (l6 : Int32) (I : Nat → Nat → Int32) (J : Nat → Nat → Int64) : Option (Int32 × (Nat → Nat → Int32) × (Nat → Nat → Int64)) := if l1 < l6 then (some (1, I, J)) else (if l4 < (zv_X2_share l1 l6 l3) then (some (0, I, J)) else (if (zv_X2_share l1 l6 l2) ≤ l5 then (rec 19 l1 l2 l3 l4 l5 (l6 + 1) I J) else (some (0, I, J))))
def zl_X2_atRest (N : Nat) : Nat → Nat → Int32 → Int32 → Int32 → Int32 → Int32 → Int32 → (Nat → Nat → Int32) → (Nat → Nat → Int64) → Option (Int32 × (Nat → Nat → Int32) × (Nat → Nat → Int64))
  | 0 => fun _ _ _ _ _ _ _ _ _ => none
  | n + 1 => fun pc l1 l2 l3 l4 l5 l6 I J => if pc = 0 then zb_X2_atRest_0 N (zl_X2_atRest N n) l1 l2 l3 l4 l5 l6 I J else (if pc = 19 then zb_X2_atRest_19 N (zl_X2_atRest N n) l1 l2 l3 l4 l5 l6 I J else none)
theorem ze_X2_atRest_0 (N : Nat) (n : Nat) (l1 : Int32) (l2 : Int32) (l3 : Int32) (l4 : Int32) (l5 : Int32) (l6 : Int32) (I : Nat → Nat → Int32) (J : Nat → Nat → Int64) : zl_X2_atRest N (n+1) 0 l1 l2 l3 l4 l5 l6 I J = zb_X2_atRest_0 N (zl_X2_atRest N n) l1 l2 l3 l4 l5 l6 I J := by
  show (if 0 = 0 then zb_X2_atRest_0 N (zl_X2_atRest N n) l1 l2 l3 l4 l5 l6 I J else (if 0 = 19 then zb_X2_atRest_19 N (zl_X2_atRest N n) l1 l2 l3 l4 l5 l6 I J else none)) = _
  rw [if_pos rfl]
theorem ze_X2_atRest_19 (N : Nat) (n : Nat) (l1 : Int32) (l2 : Int32) (l3 : Int32) (l4 : Int32) (l5 : Int32) (l6 : Int32) (I : Nat → Nat → Int32) (J : Nat → Nat → Int64) : zl_X2_atRest N (n+1) 19 l1 l2 l3 l4 l5 l6 I J = zb_X2_atRest_19 N (zl_X2_atRest N n) l1 l2 l3 l4 l5 l6 I J := by
  show (if 19 = 0 then zb_X2_atRest_0 N (zl_X2_atRest N n) l1 l2 l3 l4 l5 l6 I J else (if 19 = 19 then zb_X2_atRest_19 N (zl_X2_atRest N n) l1 l2 l3 l4 l5 l6 I J else none)) = _
  rw [if_neg (by decide), if_pos rfl]
def zf_X2_atRest (N : Nat) (l1 : Int32) (l2 : Int32) (l3 : Int32) (I : Nat → Nat → Int32) (J : Nat → Nat → Int64) : Option (Int32 × (Nat → Nat → Int32) × (Nat → Nat → Int64)) := zl_X2_atRest N N 0 l1 l2 l3 0 0 0 I J
theorem zq_X2_atRest (F : zz_F) (d N : Nat) : ∀ n : Nat, (∀ (l1 : Int32) (l2 : Int32) (l3 : Int32) (l4 : Int32) (l5 : Int32) (l6 : Int32) (I : Nat → Nat → Int32) (J : Nat → Nat → Int64) (r : Int32 × (Nat → Nat → Int32) × (Nat → Nat → Int64)), zl_X2_atRest N n 0 l1 l2 l3 l4 l5 l6 I J = some r → zz_run (d+2) 25 0 [some (.ref 49), some (.int l1), some (.int l2), some (.int l3), none, none, none] [] (zz_S F I J) (some (.int r.1)) (zz_S F I J)) ∧ (∀ (l1 : Int32) (l2 : Int32) (l3 : Int32) (l4 : Int32) (l5 : Int32) (l6 : Int32) (I : Nat → Nat → Int32) (J : Nat → Nat → Int64) (r : Int32 × (Nat → Nat → Int32) × (Nat → Nat → Int64)), zl_X2_atRest N n 19 l1 l2 l3 l4 l5 l6 I J = some r → zz_run (d+2) 25 19 [some (.ref 49), some (.int l1), some (.int l2), some (.int l3), some (.int l4), some (.int l5), some (.int l6)] [] (zz_S F I J) (some (.int r.1)) (zz_S F I J)) := by
  intro n
  induction n with
  | zero => exact ⟨fun _ _ _ _ _ _ _ _ _ h => zz_no h, fun _ _ _ _ _ _ _ _ _ h => zz_no h⟩
  | succ n ih =>
    obtain ⟨ih0, ih19⟩ := ih
    refine ⟨?_, ?_⟩
    · intro l1 l2 l3 l4 l5 l6 I J r hr
      rw [ze_X2_atRest_0] at hr
      unfold zb_X2_atRest_0 at hr
      refine zs_25_0 ?_
      refine And.intro (Nat.le_of_ble_eq_true rfl) (And.intro (Nat.le_of_ble_eq_true rfl) (And.intro (Nat.le_of_ble_eq_true rfl) ?_))
      refine Exists.intro _ (Exists.intro _ (And.intro (zr_X2_share F I J d l1 l2 l3) ?_))
      refine And.intro (Nat.le_of_ble_eq_true rfl) (And.intro (Nat.le_of_ble_eq_true rfl) (And.intro (Nat.le_of_ble_eq_true rfl) ?_))
      refine Exists.intro _ (Exists.intro _ (And.intro (zr_X2_share F I J d l1 l3 l2) ?_))
      exact zz_wk [true, true, true, true, true, true, true] rfl (ih19 _ _ _ _ _ _ _ _ _ hr)
    · intro l1 l2 l3 l4 l5 l6 I J r hr
      rw [ze_X2_atRest_19] at hr
      unfold zb_X2_atRest_19 at hr
      refine zs_25_19 ?_
      refine And.intro (fun (h1 : l1 < l6) => ?_) (fun (h1 : ¬ (l1 < l6)) => ?_)
      · rw [if_pos h1] at hr
        show zz_run _ 25 57 [some (.ref 49), some (.int l1), some (.int l2), some (.int l3), some (.int l4), some (.int l5), some (.int l6)] [] (zz_S F I J) _ _
        refine zs_25_57 ?_
        replace hr := Option.some.inj hr
        subst hr
        exact And.intro rfl (And.intro rfl rfl)
      · rw [if_neg h1] at hr
        refine And.intro (Nat.le_of_ble_eq_true rfl) (And.intro (Nat.le_of_ble_eq_true rfl) (And.intro (Nat.le_of_ble_eq_true rfl) ?_))
        refine Exists.intro _ (Exists.intro _ (And.intro (zr_X2_share F I J d l1 l6 l3) ?_))
        refine And.intro (fun (h2 : l4 < (zv_X2_share l1 l6 l3)) => ?_) (fun (h2 : ¬ (l4 < (zv_X2_share l1 l6 l3))) => ?_)
        · rw [if_pos h2] at hr
          show zz_run _ 25 49 [some (.ref 49), some (.int l1), some (.int l2), some (.int l3), some (.int l4), some (.int l5), some (.int l6)] [] (zz_S F I J) _ _
          refine zs_25_49 ?_
          replace hr := Option.some.inj hr
          subst hr
          exact And.intro rfl (And.intro rfl rfl)
        · rw [if_neg h2] at hr
          refine And.intro (Nat.le_of_ble_eq_true rfl) (And.intro (Nat.le_of_ble_eq_true rfl) (And.intro (Nat.le_of_ble_eq_true rfl) ?_))
          refine Exists.intro _ (Exists.intro _ (And.intro (zr_X2_share F I J d l1 l6 l2) ?_))
          refine And.intro (fun (h3 : (zv_X2_share l1 l6 l2) ≤ l5) => ?_) (fun (h3 : ¬ ((zv_X2_share l1 l6 l2) ≤ l5)) => ?_)
          · rw [if_pos h3] at hr
            show zz_run _ 25 51 [some (.ref 49), some (.int l1), some (.int l2), some (.int l3), some (.int l4), some (.int l5), some (.int l6)] [] (zz_S F I J) _ _
            refine zs_25_51 ?_
            exact zz_wk [true, true, true, true, true, true, true] rfl (ih19 _ _ _ _ _ _ _ _ _ hr)
          · rw [if_neg h3] at hr
            show zz_run _ 25 49 [some (.ref 49), some (.int l1), some (.int l2), some (.int l3), some (.int l4), some (.int l5), some (.int l6)] [] (zz_S F I J) _ _
            refine zs_25_49 ?_
            replace hr := Option.some.inj hr
            subst hr
            exact And.intro rfl (And.intro rfl rfl)
theorem zr_X2_atRest (F : zz_F) (I : Nat → Nat → Int32) (J : Nat → Nat → Int64) (d N : Nat) (l1 : Int32) (l2 : Int32) (l3 : Int32) (r : Int32 × (Nat → Nat → Int32) × (Nat → Nat → Int64)) (h : zf_X2_atRest N l1 l2 l3 I J = some r) : zz_run (d+2) 25 0 [some (.ref 49), some (.int l1), some (.int l2), some (.int l3), none, none, none] [] (zz_S F I J) (some (.int r.1)) (zz_S F I J) := (zq_X2_atRest F d N N).1 l1 l2 l3 0 0 0 I J r h
def zb_X3_takesPlay_0 (N : Nat) (rec : Nat → Int32 → (Nat → Nat → Int32) → (Nat → Nat → Int64) → Option (Int32 × (Nat → Nat → Int32) × (Nat → Nat → Int64))) (l1 : Int32) (I : Nat → Nat → Int32) (J : Nat → Nat → Int64) : Option (Int32 × (Nat → Nat → Int32) × (Nat → Nat → Int64)) := if 12 ≤ (I 36 2) then (some (0, I, J)) else (if l1 = 48 then ((some (zz_putm (zz_putm (zz_putm I (I 36 2) 0 (l1 - 48)) ((zz_putm I (I 36 2) 0 (l1 - 48)) 36 2) 2 0) ((zz_putm (zz_putm I (I 36 2) 0 (l1 - 48)) ((zz_putm I (I 36 2) 0 (l1 - 48)) 36 2) 2 0) 36 2) 3 0)).bind fun i1 => some (1, zz_u (zz_putm (zz_putm i1 (i1 36 2) 4 ((-1))) ((zz_putm i1 (i1 36 2) 4 ((-1))) 36 2) 5 ((-1))) 36 1 1, J)) else (if l1 = 49 then ((some (zz_putm (zz_putm (zz_putm I (I 36 2) 0 (l1 - 48)) ((zz_putm I (I 36 2) 0 (l1 - 48)) 36 2) 2 0) ((zz_putm (zz_putm I (I 36 2) 0 (l1 - 48)) ((zz_putm I (I 36 2) 0 (l1 - 48)) 36 2) 2 0) 36 2) 3 0)).bind fun i2 => some (1, zz_u (zz_putm (zz_putm i2 (i2 36 2) 4 ((-1))) ((zz_putm i2 (i2 36 2) 4 ((-1))) 36 2) 5 ((-1))) 36 1 1, J)) else (some (0, I, J))))
def zl_X3_takesPlay (N : Nat) : Nat → Nat → Int32 → (Nat → Nat → Int32) → (Nat → Nat → Int64) → Option (Int32 × (Nat → Nat → Int32) × (Nat → Nat → Int64))
  | 0 => fun _ _ _ _ => none
  | n + 1 => fun pc l1 I J => if pc = 0 then zb_X3_takesPlay_0 N (zl_X3_takesPlay N n) l1 I J else none
theorem ze_X3_takesPlay_0 (N : Nat) (n : Nat) (l1 : Int32) (I : Nat → Nat → Int32) (J : Nat → Nat → Int64) : zl_X3_takesPlay N (n+1) 0 l1 I J = zb_X3_takesPlay_0 N (zl_X3_takesPlay N n) l1 I J := by
  show (if 0 = 0 then zb_X3_takesPlay_0 N (zl_X3_takesPlay N n) l1 I J else none) = _
  rw [if_pos rfl]
def zf_X3_takesPlay (N : Nat) (l1 : Int32) (I : Nat → Nat → Int32) (J : Nat → Nat → Int64) : Option (Int32 × (Nat → Nat → Int32) × (Nat → Nat → Int64)) := zl_X3_takesPlay N N 0 l1 I J
theorem zq_X3_takesPlay (F : zz_F) (d N : Nat) : ∀ n : Nat, (∀ (l1 : Int32) (I : Nat → Nat → Int32) (J : Nat → Nat → Int64) (r : Int32 × (Nat → Nat → Int32) × (Nat → Nat → Int64)), zl_X3_takesPlay N n 0 l1 I J = some r → zz_run (d+1) 37 0 [some (.ref 36), some (.int l1)] [] (zz_S F I J) (some (.int r.1)) (zz_S F (r.2.1) J)) := by
  intro n
  induction n with
  | zero => exact fun _ _ _ _ h => zz_no h
  | succ n ih =>
    have ih0 := ih
    skip
    · intro l1 I J r hr
      rw [ze_X3_takesPlay_0] at hr
      unfold zb_X3_takesPlay_0 at hr
      refine zs_37_0 ?_
      refine And.intro (rfl) (And.intro (fun (h1 : 12 ≤ (I 36 2)) => ?_) (fun (h1 : ¬ (12 ≤ (I 36 2))) => ?_))
      · rw [if_pos h1] at hr
        show zz_run _ 37 21 [some (.ref 36), some (.int l1)] [] (zz_S F I J) _ _
        refine zs_37_21 ?_
        replace hr := Option.some.inj hr
        subst hr
        exact And.intro rfl (And.intro rfl rfl)
      · rw [if_neg h1] at hr
        refine And.intro (fun (h2 : l1 = 48) => ?_) (fun (h2 : ¬ (l1 = 48)) => ?_)
        · rw [if_pos h2] at hr
          show zz_run _ 37 23 [some (.ref 36), some (.int l1)] [] (zz_S F I J) _ _
          refine zs_37_23 ?_
          refine And.intro (rfl) (And.intro (rfl) (And.intro (rfl) (And.intro (Nat.le_of_ble_eq_true rfl) (And.intro (Nat.le_of_ble_eq_true rfl) (And.intro (Nat.le_of_ble_eq_true rfl) ?_)))))
          refine Exists.intro _ (Exists.intro _ (And.intro (zr_put F I J d (I 36 2) 0 (l1 - 48)) ?_))
          refine And.intro (rfl) (And.intro (rfl) (And.intro (rfl) (And.intro (Nat.le_of_ble_eq_true rfl) (And.intro (Nat.le_of_ble_eq_true rfl) (And.intro (Nat.le_of_ble_eq_true rfl) ?_)))))
          refine Exists.intro _ (Exists.intro _ (And.intro (zr_put F (zz_putm I (I 36 2) 0 (l1 - 48)) J d ((zz_putm I (I 36 2) 0 (l1 - 48)) 36 2) 2 0) ?_))
          refine And.intro (rfl) (And.intro (rfl) (And.intro (rfl) (And.intro (Nat.le_of_ble_eq_true rfl) (And.intro (Nat.le_of_ble_eq_true rfl) (And.intro (Nat.le_of_ble_eq_true rfl) ?_)))))
          obtain ⟨i1, ci1, hr⟩ := Option.bind_eq_some_iff.mp hr
          refine Exists.intro _ (Exists.intro _ (And.intro (zz_bi ci1 (zr_put F (zz_putm (zz_putm I (I 36 2) 0 (l1 - 48)) ((zz_putm I (I 36 2) 0 (l1 - 48)) 36 2) 2 0) J d ((zz_putm (zz_putm I (I 36 2) 0 (l1 - 48)) ((zz_putm I (I 36 2) 0 (l1 - 48)) 36 2) 2 0) 36 2) 3 0)) ?_))
          refine And.intro (rfl) (And.intro (rfl) (And.intro (rfl) (And.intro (Nat.le_of_ble_eq_true rfl) (And.intro (Nat.le_of_ble_eq_true rfl) (And.intro (Nat.le_of_ble_eq_true rfl) ?_)))))
          refine Exists.intro _ (Exists.intro _ (And.intro (zr_put F i1 J d (i1 36 2) 4 ((-1))) ?_))
          refine And.intro (rfl) (And.intro (rfl) (And.intro (rfl) (And.intro (Nat.le_of_ble_eq_true rfl) (And.intro (Nat.le_of_ble_eq_true rfl) (And.intro (Nat.le_of_ble_eq_true rfl) ?_)))))
          refine Exists.intro _ (Exists.intro _ (And.intro (zr_put F (zz_putm i1 (i1 36 2) 4 ((-1))) J d ((zz_putm i1 (i1 36 2) 4 ((-1))) 36 2) 5 ((-1))) ?_))
          refine And.intro (rfl) (And.intro (rfl) (And.intro (And.intro rfl rfl) ?_))
          replace hr := Option.some.inj hr
          subst hr
          exact And.intro rfl (And.intro rfl rfl)
        · rw [if_neg h2] at hr
          refine And.intro (fun (h3 : l1 = 49) => ?_) (fun (h3 : ¬ (l1 = 49)) => ?_)
          · rw [if_pos h3] at hr
            show zz_run _ 37 23 [some (.ref 36), some (.int l1)] [] (zz_S F I J) _ _
            refine zs_37_23 ?_
            refine And.intro (rfl) (And.intro (rfl) (And.intro (rfl) (And.intro (Nat.le_of_ble_eq_true rfl) (And.intro (Nat.le_of_ble_eq_true rfl) (And.intro (Nat.le_of_ble_eq_true rfl) ?_)))))
            refine Exists.intro _ (Exists.intro _ (And.intro (zr_put F I J d (I 36 2) 0 (l1 - 48)) ?_))
            refine And.intro (rfl) (And.intro (rfl) (And.intro (rfl) (And.intro (Nat.le_of_ble_eq_true rfl) (And.intro (Nat.le_of_ble_eq_true rfl) (And.intro (Nat.le_of_ble_eq_true rfl) ?_)))))
            refine Exists.intro _ (Exists.intro _ (And.intro (zr_put F (zz_putm I (I 36 2) 0 (l1 - 48)) J d ((zz_putm I (I 36 2) 0 (l1 - 48)) 36 2) 2 0) ?_))
            refine And.intro (rfl) (And.intro (rfl) (And.intro (rfl) (And.intro (Nat.le_of_ble_eq_true rfl) (And.intro (Nat.le_of_ble_eq_true rfl) (And.intro (Nat.le_of_ble_eq_true rfl) ?_)))))
            obtain ⟨i2, ci2, hr⟩ := Option.bind_eq_some_iff.mp hr
            refine Exists.intro _ (Exists.intro _ (And.intro (zz_bi ci2 (zr_put F (zz_putm (zz_putm I (I 36 2) 0 (l1 - 48)) ((zz_putm I (I 36 2) 0 (l1 - 48)) 36 2) 2 0) J d ((zz_putm (zz_putm I (I 36 2) 0 (l1 - 48)) ((zz_putm I (I 36 2) 0 (l1 - 48)) 36 2) 2 0) 36 2) 3 0)) ?_))
            refine And.intro (rfl) (And.intro (rfl) (And.intro (rfl) (And.intro (Nat.le_of_ble_eq_true rfl) (And.intro (Nat.le_of_ble_eq_true rfl) (And.intro (Nat.le_of_ble_eq_true rfl) ?_)))))
            refine Exists.intro _ (Exists.intro _ (And.intro (zr_put F i2 J d (i2 36 2) 4 ((-1))) ?_))
            refine And.intro (rfl) (And.intro (rfl) (And.intro (rfl) (And.intro (Nat.le_of_ble_eq_true rfl) (And.intro (Nat.le_of_ble_eq_true rfl) (And.intro (Nat.le_of_ble_eq_true rfl) ?_)))))
            refine Exists.intro _ (Exists.intro _ (And.intro (zr_put F (zz_putm i2 (i2 36 2) 4 ((-1))) J d ((zz_putm i2 (i2 36 2) 4 ((-1))) 36 2) 5 ((-1))) ?_))
            refine And.intro (rfl) (And.intro (rfl) (And.intro (And.intro rfl rfl) ?_))
            replace hr := Option.some.inj hr
            subst hr
            exact And.intro rfl (And.intro rfl rfl)
          · rw [if_neg h3] at hr
            show zz_run _ 37 21 [some (.ref 36), some (.int l1)] [] (zz_S F I J) _ _
            refine zs_37_21 ?_
            replace hr := Option.some.inj hr
            subst hr
            exact And.intro rfl (And.intro rfl rfl)
theorem zr_X3_takesPlay (F : zz_F) (I : Nat → Nat → Int32) (J : Nat → Nat → Int64) (d N : Nat) (l1 : Int32) (r : Int32 × (Nat → Nat → Int32) × (Nat → Nat → Int64)) (h : zf_X3_takesPlay N l1 I J = some r) : zz_run (d+1) 37 0 [some (.ref 36), some (.int l1)] [] (zz_S F I J) (some (.int r.1)) (zz_S F (r.2.1) J) := (zq_X3_takesPlay F d N N) l1 I J r h
def zb_X4_findShortestTurns_0 (N : Nat) (rec : Nat → Int32 → Int32 → Int32 → Int32 → Int32 → (Nat → Nat → Int32) → (Nat → Nat → Int64) → Option (Int32 × (Nat → Nat → Int32) × (Nat → Nat → Int64))) (l1 : Int32) (l2 : Int32) (l3 : Int32) (l4 : Int32) (l5 : Int32) (I : Nat → Nat → Int32) (J : Nat → Nat → Int64) : Option (Int32 × (Nat → Nat → Int32) × (Nat → Nat → Int64)) := rec 25 0 0 0 ((I 41 6) + (I 41 7)) 0 (zz_u I 41 5 0) J
def zb_X4_findShortestTurns_25 (N : Nat) (rec : Nat → Int32 → Int32 → Int32 → Int32 → Int32 → (Nat → Nat → Int32) → (Nat → Nat → Int64) → Option (Int32 × (Nat → Nat → Int32) × (Nat → Nat → Int64))) (l1 : Int32) (l2 : Int32) (l3 : Int32) (l4 : Int32) (l5 : Int32) (I : Nat → Nat → Int32) (J : Nat → Nat → Int64) : Option (Int32 × (Nat → Nat → Int32) × (Nat → Nat → Int64)) := if l4 ≤ l5 then (rec 134 0 0 0 0 0 I J) else (if (nI 12) ≤ l5 then (rec 134 0 0 0 0 0 I J) else (if (I 41 6) ≤ l1 then (rec 72 l1 l2 0 l4 l5 I J) else (if ¬ (zv_X4_restBy I l1 l2 l3 0) = (zv_X4_valueAt I l1 l2 l3) then (rec 72 l1 l2 0 l4 l5 I J) else (if (1 : Int32) = 0 then (if (1 : Int32) = 0 then (if (1 : Int32) = 0 then (if ¬ (l5 < 0 ∨ 12 ≤ l5.toNatClampNeg) then (rec 25 (l1 + 0) (l2 + 1) 1 l4 (l5 + 1) (zz_u (zz_u I 45 l5.toNatClampNeg 1) 41 5 (l5 + 1)) J) else none) else (if ¬ (l5 < 0 ∨ 12 ≤ l5.toNatClampNeg) then (rec 25 (l1 + 0) (l2 + 0) 1 l4 (l5 + 1) (zz_u (zz_u I 45 l5.toNatClampNeg 1) 41 5 (l5 + 1)) J) else none)) else (if (1 : Int32) = 0 then (if ¬ (l5 < 0 ∨ 12 ≤ l5.toNatClampNeg) then (rec 25 (l1 + 1) (l2 + 1) 1 l4 (l5 + 1) (zz_u (zz_u I 45 l5.toNatClampNeg 1) 41 5 (l5 + 1)) J) else none) else (if ¬ (l5 < 0 ∨ 12 ≤ l5.toNatClampNeg) then (rec 25 (l1 + 1) (l2 + 0) 1 l4 (l5 + 1) (zz_u (zz_u I 45 l5.toNatClampNeg 1) 41 5 (l5 + 1)) J) else none))) else (if (1 : Int32) = 0 then (if (1 : Int32) = 0 then (if ¬ (l5 < 0 ∨ 12 ≤ l5.toNatClampNeg) then (rec 25 (l1 + 0) (l2 + 1) 0 l4 (l5 + 1) (zz_u (zz_u I 45 l5.toNatClampNeg 0) 41 5 (l5 + 1)) J) else none) else (if ¬ (l5 < 0 ∨ 12 ≤ l5.toNatClampNeg) then (rec 25 (l1 + 0) (l2 + 0) 0 l4 (l5 + 1) (zz_u (zz_u I 45 l5.toNatClampNeg 0) 41 5 (l5 + 1)) J) else none)) else (if (1 : Int32) = 0 then (if ¬ (l5 < 0 ∨ 12 ≤ l5.toNatClampNeg) then (rec 25 (l1 + 1) (l2 + 1) 0 l4 (l5 + 1) (zz_u (zz_u I 45 l5.toNatClampNeg 0) 41 5 (l5 + 1)) J) else none) else (if ¬ (l5 < 0 ∨ 12 ≤ l5.toNatClampNeg) then (rec 25 (l1 + 1) (l2 + 0) 0 l4 (l5 + 1) (zz_u (zz_u I 45 l5.toNatClampNeg 0) 41 5 (l5 + 1)) J) else none)))))))
def zb_X4_findShortestTurns_72 (N : Nat) (rec : Nat → Int32 → Int32 → Int32 → Int32 → Int32 → (Nat → Nat → Int32) → (Nat → Nat → Int64) → Option (Int32 × (Nat → Nat → Int32) × (Nat → Nat → Int64))) (l1 : Int32) (l2 : Int32) (l3 : Int32) (l4 : Int32) (l5 : Int32) (I : Nat → Nat → Int32) (J : Nat → Nat → Int64) : Option (Int32 × (Nat → Nat → Int32) × (Nat → Nat → Int64)) := if (0 : Int32) = 0 then (if (0 : Int32) = 0 then (if (0 : Int32) = 0 then (if ¬ (l5 < 0 ∨ 12 ≤ l5.toNatClampNeg) then (rec 25 (l1 + 0) (l2 + 1) 1 l4 (l5 + 1) (zz_u (zz_u I 45 l5.toNatClampNeg 1) 41 5 (l5 + 1)) J) else none) else (if ¬ (l5 < 0 ∨ 12 ≤ l5.toNatClampNeg) then (rec 25 (l1 + 0) (l2 + 0) 1 l4 (l5 + 1) (zz_u (zz_u I 45 l5.toNatClampNeg 1) 41 5 (l5 + 1)) J) else none)) else (if (0 : Int32) = 0 then (if ¬ (l5 < 0 ∨ 12 ≤ l5.toNatClampNeg) then (rec 25 (l1 + 1) (l2 + 1) 1 l4 (l5 + 1) (zz_u (zz_u I 45 l5.toNatClampNeg 1) 41 5 (l5 + 1)) J) else none) else (if ¬ (l5 < 0 ∨ 12 ≤ l5.toNatClampNeg) then (rec 25 (l1 + 1) (l2 + 0) 1 l4 (l5 + 1) (zz_u (zz_u I 45 l5.toNatClampNeg 1) 41 5 (l5 + 1)) J) else none))) else (if (0 : Int32) = 0 then (if (0 : Int32) = 0 then (if ¬ (l5 < 0 ∨ 12 ≤ l5.toNatClampNeg) then (rec 25 (l1 + 0) (l2 + 1) 0 l4 (l5 + 1) (zz_u (zz_u I 45 l5.toNatClampNeg 0) 41 5 (l5 + 1)) J) else none) else (if ¬ (l5 < 0 ∨ 12 ≤ l5.toNatClampNeg) then (rec 25 (l1 + 0) (l2 + 0) 0 l4 (l5 + 1) (zz_u (zz_u I 45 l5.toNatClampNeg 0) 41 5 (l5 + 1)) J) else none)) else (if (0 : Int32) = 0 then (if ¬ (l5 < 0 ∨ 12 ≤ l5.toNatClampNeg) then (rec 25 (l1 + 1) (l2 + 1) 0 l4 (l5 + 1) (zz_u (zz_u I 45 l5.toNatClampNeg 0) 41 5 (l5 + 1)) J) else none) else (if ¬ (l5 < 0 ∨ 12 ≤ l5.toNatClampNeg) then (rec 25 (l1 + 1) (l2 + 0) 0 l4 (l5 + 1) (zz_u (zz_u I 45 l5.toNatClampNeg 0) 41 5 (l5 + 1)) J) else none)))
def zb_X4_findShortestTurns_134 (N : Nat) (rec : Nat → Int32 → Int32 → Int32 → Int32 → Int32 → (Nat → Nat → Int32) → (Nat → Nat → Int64) → Option (Int32 × (Nat → Nat → Int32) × (Nat → Nat → Int64))) (l1 : Int32) (l2 : Int32) (l3 : Int32) (l4 : Int32) (l5 : Int32) (I : Nat → Nat → Int32) (J : Nat → Nat → Int64) : Option (Int32 × (Nat → Nat → Int32) × (Nat → Nat → Int64)) := some (0, I, J)
def zl_X4_findShortestTurns (N : Nat) : Nat → Nat → Int32 → Int32 → Int32 → Int32 → Int32 → (Nat → Nat → Int32) → (Nat → Nat → Int64) → Option (Int32 × (Nat → Nat → Int32) × (Nat → Nat → Int64))
  | 0 => fun _ _ _ _ _ _ _ _ => none
  | n + 1 => fun pc l1 l2 l3 l4 l5 I J => if pc = 0 then zb_X4_findShortestTurns_0 N (zl_X4_findShortestTurns N n) l1 l2 l3 l4 l5 I J else (if pc = 25 then zb_X4_findShortestTurns_25 N (zl_X4_findShortestTurns N n) l1 l2 l3 l4 l5 I J else (if pc = 72 then zb_X4_findShortestTurns_72 N (zl_X4_findShortestTurns N n) l1 l2 l3 l4 l5 I J else (if pc = 134 then zb_X4_findShortestTurns_134 N (zl_X4_findShortestTurns N n) l1 l2 l3 l4 l5 I J else none)))
theorem ze_X4_findShortestTurns_0 (N : Nat) (n : Nat) (l1 : Int32) (l2 : Int32) (l3 : Int32) (l4 : Int32) (l5 : Int32) (I : Nat → Nat → Int32) (J : Nat → Nat → Int64) : zl_X4_findShortestTurns N (n+1) 0 l1 l2 l3 l4 l5 I J = zb_X4_findShortestTurns_0 N (zl_X4_findShortestTurns N n) l1 l2 l3 l4 l5 I J := by
  show (if 0 = 0 then zb_X4_findShortestTurns_0 N (zl_X4_findShortestTurns N n) l1 l2 l3 l4 l5 I J else (if 0 = 25 then zb_X4_findShortestTurns_25 N (zl_X4_findShortestTurns N n) l1 l2 l3 l4 l5 I J else (if 0 = 72 then zb_X4_findShortestTurns_72 N (zl_X4_findShortestTurns N n) l1 l2 l3 l4 l5 I J else (if 0 = 134 then zb_X4_findShortestTurns_134 N (zl_X4_findShortestTurns N n) l1 l2 l3 l4 l5 I J else none)))) = _
  rw [if_pos rfl]
theorem ze_X4_findShortestTurns_25 (N : Nat) (n : Nat) (l1 : Int32) (l2 : Int32) (l3 : Int32) (l4 : Int32) (l5 : Int32) (I : Nat → Nat → Int32) (J : Nat → Nat → Int64) : zl_X4_findShortestTurns N (n+1) 25 l1 l2 l3 l4 l5 I J = zb_X4_findShortestTurns_25 N (zl_X4_findShortestTurns N n) l1 l2 l3 l4 l5 I J := by
  show (if 25 = 0 then zb_X4_findShortestTurns_0 N (zl_X4_findShortestTurns N n) l1 l2 l3 l4 l5 I J else (if 25 = 25 then zb_X4_findShortestTurns_25 N (zl_X4_findShortestTurns N n) l1 l2 l3 l4 l5 I J else (if 25 = 72 then zb_X4_findShortestTurns_72 N (zl_X4_findShortestTurns N n) l1 l2 l3 l4 l5 I J else (if 25 = 134 then zb_X4_findShortestTurns_134 N (zl_X4_findShortestTurns N n) l1 l2 l3 l4 l5 I J else none)))) = _
  rw [if_neg (by decide), if_pos rfl]
theorem ze_X4_findShortestTurns_72 (N : Nat) (n : Nat) (l1 : Int32) (l2 : Int32) (l3 : Int32) (l4 : Int32) (l5 : Int32) (I : Nat → Nat → Int32) (J : Nat → Nat → Int64) : zl_X4_findShortestTurns N (n+1) 72 l1 l2 l3 l4 l5 I J = zb_X4_findShortestTurns_72 N (zl_X4_findShortestTurns N n) l1 l2 l3 l4 l5 I J := by
  show (if 72 = 0 then zb_X4_findShortestTurns_0 N (zl_X4_findShortestTurns N n) l1 l2 l3 l4 l5 I J else (if 72 = 25 then zb_X4_findShortestTurns_25 N (zl_X4_findShortestTurns N n) l1 l2 l3 l4 l5 I J else (if 72 = 72 then zb_X4_findShortestTurns_72 N (zl_X4_findShortestTurns N n) l1 l2 l3 l4 l5 I J else (if 72 = 134 then zb_X4_findShortestTurns_134 N (zl_X4_findShortestTurns N n) l1 l2 l3 l4 l5 I J else none)))) = _
  rw [if_neg (by decide), if_neg (by decide), if_pos rfl]
theorem ze_X4_findShortestTurns_134 (N : Nat) (n : Nat) (l1 : Int32) (l2 : Int32) (l3 : Int32) (l4 : Int32) (l5 : Int32) (I : Nat → Nat → Int32) (J : Nat → Nat → Int64) : zl_X4_findShortestTurns N (n+1) 134 l1 l2 l3 l4 l5 I J = zb_X4_findShortestTurns_134 N (zl_X4_findShortestTurns N n) l1 l2 l3 l4 l5 I J := by
  show (if 134 = 0 then zb_X4_findShortestTurns_0 N (zl_X4_findShortestTurns N n) l1 l2 l3 l4 l5 I J else (if 134 = 25 then zb_X4_findShortestTurns_25 N (zl_X4_findShortestTurns N n) l1 l2 l3 l4 l5 I J else (if 134 = 72 then zb_X4_findShortestTurns_72 N (zl_X4_findShortestTurns N n) l1 l2 l3 l4 l5 I J else (if 134 = 134 then zb_X4_findShortestTurns_134 N (zl_X4_findShortestTurns N n) l1 l2 l3 l4 l5 I J else none)))) = _
  rw [if_neg (by decide), if_neg (by decide), if_neg (by decide), if_pos rfl]
def zf_X4_findShortestTurns (N : Nat)  (I : Nat → Nat → Int32) (J : Nat → Nat → Int64) : Option (Int32 × (Nat → Nat → Int32) × (Nat → Nat → Int64)) := zl_X4_findShortestTurns N N 0 0 0 0 0 0 I J
theorem zq_X4_findShortestTurns (F : zz_F) (d N : Nat) : ∀ n : Nat, (∀ (l1 : Int32) (l2 : Int32) (l3 : Int32) (l4 : Int32) (l5 : Int32) (I : Nat → Nat → Int32) (J : Nat → Nat → Int64) (r : Int32 × (Nat → Nat → Int32) × (Nat → Nat → Int64)), zl_X4_findShortestTurns N n 0 l1 l2 l3 l4 l5 I J = some r → zz_run (d+2) 61 0 [some (.ref 41), none, none, none, none, none, none] [] (zz_S F I J) none (zz_S F (r.2.1) J)) ∧ (∀ (l1 : Int32) (l2 : Int32) (l3 : Int32) (l4 : Int32) (l5 : Int32) (I : Nat → Nat → Int32) (J : Nat → Nat → Int64) (r : Int32 × (Nat → Nat → Int32) × (Nat → Nat → Int64)), zl_X4_findShortestTurns N n 25 l1 l2 l3 l4 l5 I J = some r → zz_run (d+2) 61 25 [some (.ref 41), some (.int l1), some (.int l2), some (.int l3), some (.int l4), some (.int l5), none] [] (zz_S F I J) none (zz_S F (r.2.1) J)) ∧ (∀ (l1 : Int32) (l2 : Int32) (l3 : Int32) (l4 : Int32) (l5 : Int32) (I : Nat → Nat → Int32) (J : Nat → Nat → Int64) (r : Int32 × (Nat → Nat → Int32) × (Nat → Nat → Int64)), zl_X4_findShortestTurns N n 72 l1 l2 l3 l4 l5 I J = some r → zz_run (d+2) 61 72 [some (.ref 41), some (.int l1), some (.int l2), none, some (.int l4), some (.int l5), none] [] (zz_S F I J) none (zz_S F (r.2.1) J)) ∧ (∀ (l1 : Int32) (l2 : Int32) (l3 : Int32) (l4 : Int32) (l5 : Int32) (I : Nat → Nat → Int32) (J : Nat → Nat → Int64) (r : Int32 × (Nat → Nat → Int32) × (Nat → Nat → Int64)), zl_X4_findShortestTurns N n 134 l1 l2 l3 l4 l5 I J = some r → zz_run (d+2) 61 134 [some (.ref 41), none, none, none, none, none, none] [] (zz_S F I J) none (zz_S F (r.2.1) J)) := by
  intro n
  induction n with
  | zero => exact ⟨fun _ _ _ _ _ _ _ _ h => zz_no h, fun _ _ _ _ _ _ _ _ h => zz_no h, fun _ _ _ _ _ _ _ _ h => zz_no h, fun _ _ _ _ _ _ _ _ h => zz_no h⟩
  | succ n ih =>
    obtain ⟨ih0, ih25, ih72, ih134⟩ := ih
    refine ⟨?_, ?_, ?_, ?_⟩
    · intro l1 l2 l3 l4 l5 I J r hr
      rw [ze_X4_findShortestTurns_0] at hr
      unfold zb_X4_findShortestTurns_0 at hr
      refine zs_61_0 ?_
      refine And.intro (rfl) (And.intro (rfl) (And.intro (And.intro rfl rfl) (And.intro (rfl) (And.intro (rfl) ?_))))
      exact zz_wk [true, true, true, true, true, true, false] rfl (ih25 _ _ _ _ _ _ _ _ hr)
    · intro l1 l2 l3 l4 l5 I J r hr
      rw [ze_X4_findShortestTurns_25] at hr
      unfold zb_X4_findShortestTurns_25 at hr
      refine zs_61_25 ?_
      refine And.intro (fun (h1 : l4 ≤ l5) => ?_) (fun (h1 : ¬ (l4 ≤ l5)) => ?_)
      · rw [if_pos h1] at hr
        exact zz_wk [true, false, false, false, false, false, false] rfl (ih134 _ _ _ _ _ _ _ _ hr)
      · rw [if_neg h1] at hr
        refine And.intro (rfl) (And.intro (Nat.le_of_ble_eq_true rfl) (And.intro (Nat.le_of_ble_eq_true rfl) (And.intro (fun (h2 : (nI 12) ≤ l5) => ?_) (fun (h2 : ¬ ((nI 12) ≤ l5)) => ?_))))
        · rw [if_pos h2] at hr
          exact zz_wk [true, false, false, false, false, false, false] rfl (ih134 _ _ _ _ _ _ _ _ hr)
        · rw [if_neg h2] at hr
          refine And.intro (rfl) (And.intro (fun (h3 : (I 41 6) ≤ l1) => ?_) (fun (h3 : ¬ ((I 41 6) ≤ l1)) => ?_))
          · rw [if_pos h3] at hr
            exact zz_wk [true, true, true, false, true, true, false] rfl (ih72 _ _ _ _ _ _ _ _ hr)
          · rw [if_neg h3] at hr
            refine And.intro (rfl) (And.intro (Nat.le_of_ble_eq_true rfl) (And.intro (Nat.le_of_ble_eq_true rfl) (And.intro (Nat.le_of_ble_eq_true rfl) ?_)))
            refine Exists.intro _ (Exists.intro _ (And.intro (zr_X4_restBy F I J d l1 l2 l3 0) ?_))
            refine And.intro (rfl) (And.intro (Nat.le_of_ble_eq_true rfl) (And.intro (Nat.le_of_ble_eq_true rfl) (And.intro (Nat.le_of_ble_eq_true rfl) ?_)))
            refine Exists.intro _ (Exists.intro _ (And.intro (zr_X4_valueAt F I J (d+1) l1 l2 l3) ?_))
            refine And.intro (fun (h4 : ¬ (zv_X4_restBy I l1 l2 l3 0) = (zv_X4_valueAt I l1 l2 l3)) => ?_) (fun (h4 : ¬ (¬ (zv_X4_restBy I l1 l2 l3 0) = (zv_X4_valueAt I l1 l2 l3))) => ?_)
            · rw [if_pos h4] at hr
              exact zz_wk [true, true, true, false, true, true, false] rfl (ih72 _ _ _ _ _ _ _ _ hr)
            · rw [if_neg h4] at hr
              show zz_run _ 61 73 [some (.ref 41), some (.int l1), some (.int l2), some (.int l3), some (.int l4), some (.int l5), none] [.int 1] (zz_S F I J) _ _
              refine zs_61_73 ?_
              refine And.intro (fun (h5 : (1 : Int32) = 0) => ?_) (fun (h5 : ¬ ((1 : Int32) = 0)) => ?_)
              · rw [if_pos h5] at hr
                show zz_run _ 61 84 [some (.ref 41), some (.int l1), some (.int l2), some (.int l3), some (.int l4), some (.int l5), some (.int 1)] [] (zz_S F I J) _ _
                refine zs_61_84 ?_
                show zz_run _ 61 85 [some (.ref 41), some (.int l1), some (.int l2), some (.int l3), some (.int l4), some (.int l5), some (.int 1)] [.int 1] (zz_S F I J) _ _
                refine zs_61_85 ?_
                refine And.intro (fun (h6 : (1 : Int32) = 0) => ?_) (fun (h6 : ¬ ((1 : Int32) = 0)) => ?_)
                · rw [if_pos h6] at hr
                  show zz_run _ 61 96 [some (.ref 41), some (.int l1), some (.int l2), some (.int 1), some (.int l4), some (.int l5), some (.int 1)] [.int l1] (zz_S F I J) _ _
                  refine zs_61_96 ?_
                  show zz_run _ 61 97 [some (.ref 41), some (.int l1), some (.int l2), some (.int 1), some (.int l4), some (.int l5), some (.int 1)] [.int 0, .int l1] (zz_S F I J) _ _
                  refine zs_61_97 ?_
                  refine And.intro (fun (h7 : (1 : Int32) = 0) => ?_) (fun (h7 : ¬ ((1 : Int32) = 0)) => ?_)
                  · rw [if_pos h7] at hr
                    show zz_run _ 61 109 [some (.ref 41), some (.int (l1 + 0)), some (.int l2), some (.int 1), some (.int l4), some (.int l5), some (.int 1)] [.int l2] (zz_S F I J) _ _
                    refine zs_61_109 ?_
                    show zz_run _ 61 110 [some (.ref 41), some (.int (l1 + 0)), some (.int l2), some (.int 1), some (.int l4), some (.int l5), some (.int 1)] [.int 1, .int l2] (zz_S F I J) _ _
                    refine zs_61_110 ?_
                    refine And.intro (rfl) (And.intro (rfl) ?_)
                    have g1 : ¬ (l5 < 0 ∨ 12 ≤ l5.toNatClampNeg) := zz_g hr
                    replace hr := zz_gt hr
                    refine And.intro (g1) (And.intro (rfl) (And.intro (rfl) (And.intro (And.intro rfl rfl) ?_)))
                    exact zz_wk [true, true, true, true, true, true, false] rfl (ih25 _ _ _ _ _ _ _ _ hr)
                  · rw [if_neg h7] at hr
                    show zz_run _ 61 110 [some (.ref 41), some (.int (l1 + 0)), some (.int l2), some (.int 1), some (.int l4), some (.int l5), some (.int 1)] [.int 0, .int l2] (zz_S F I J) _ _
                    refine zs_61_110 ?_
                    refine And.intro (rfl) (And.intro (rfl) ?_)
                    have g2 : ¬ (l5 < 0 ∨ 12 ≤ l5.toNatClampNeg) := zz_g hr
                    replace hr := zz_gt hr
                    refine And.intro (g2) (And.intro (rfl) (And.intro (rfl) (And.intro (And.intro rfl rfl) ?_)))
                    exact zz_wk [true, true, true, true, true, true, false] rfl (ih25 _ _ _ _ _ _ _ _ hr)
                · rw [if_neg h6] at hr
                  show zz_run _ 61 97 [some (.ref 41), some (.int l1), some (.int l2), some (.int 1), some (.int l4), some (.int l5), some (.int 1)] [.int 1, .int l1] (zz_S F I J) _ _
                  refine zs_61_97 ?_
                  refine And.intro (fun (h8 : (1 : Int32) = 0) => ?_) (fun (h8 : ¬ ((1 : Int32) = 0)) => ?_)
                  · rw [if_pos h8] at hr
                    show zz_run _ 61 109 [some (.ref 41), some (.int (l1 + 1)), some (.int l2), some (.int 1), some (.int l4), some (.int l5), some (.int 1)] [.int l2] (zz_S F I J) _ _
                    refine zs_61_109 ?_
                    show zz_run _ 61 110 [some (.ref 41), some (.int (l1 + 1)), some (.int l2), some (.int 1), some (.int l4), some (.int l5), some (.int 1)] [.int 1, .int l2] (zz_S F I J) _ _
                    refine zs_61_110 ?_
                    refine And.intro (rfl) (And.intro (rfl) ?_)
                    have g3 : ¬ (l5 < 0 ∨ 12 ≤ l5.toNatClampNeg) := zz_g hr
                    replace hr := zz_gt hr
                    refine And.intro (g3) (And.intro (rfl) (And.intro (rfl) (And.intro (And.intro rfl rfl) ?_)))
                    exact zz_wk [true, true, true, true, true, true, false] rfl (ih25 _ _ _ _ _ _ _ _ hr)
                  · rw [if_neg h8] at hr
                    show zz_run _ 61 110 [some (.ref 41), some (.int (l1 + 1)), some (.int l2), some (.int 1), some (.int l4), some (.int l5), some (.int 1)] [.int 0, .int l2] (zz_S F I J) _ _
                    refine zs_61_110 ?_
                    refine And.intro (rfl) (And.intro (rfl) ?_)
                    have g4 : ¬ (l5 < 0 ∨ 12 ≤ l5.toNatClampNeg) := zz_g hr
                    replace hr := zz_gt hr
                    refine And.intro (g4) (And.intro (rfl) (And.intro (rfl) (And.intro (And.intro rfl rfl) ?_)))
                    exact zz_wk [true, true, true, true, true, true, false] rfl (ih25 _ _ _ _ _ _ _ _ hr)
              · rw [if_neg h5] at hr
                show zz_run _ 61 85 [some (.ref 41), some (.int l1), some (.int l2), some (.int l3), some (.int l4), some (.int l5), some (.int 1)] [.int 0] (zz_S F I J) _ _
                refine zs_61_85 ?_
                refine And.intro (fun (h9 : (1 : Int32) = 0) => ?_) (fun (h9 : ¬ ((1 : Int32) = 0)) => ?_)
                · rw [if_pos h9] at hr
                  show zz_run _ 61 96 [some (.ref 41), some (.int l1), some (.int l2), some (.int 0), some (.int l4), some (.int l5), some (.int 1)] [.int l1] (zz_S F I J) _ _
                  refine zs_61_96 ?_
                  show zz_run _ 61 97 [some (.ref 41), some (.int l1), some (.int l2), some (.int 0), some (.int l4), some (.int l5), some (.int 1)] [.int 0, .int l1] (zz_S F I J) _ _
                  refine zs_61_97 ?_
                  refine And.intro (fun (h10 : (1 : Int32) = 0) => ?_) (fun (h10 : ¬ ((1 : Int32) = 0)) => ?_)
                  · rw [if_pos h10] at hr
                    show zz_run _ 61 109 [some (.ref 41), some (.int (l1 + 0)), some (.int l2), some (.int 0), some (.int l4), some (.int l5), some (.int 1)] [.int l2] (zz_S F I J) _ _
                    refine zs_61_109 ?_
                    show zz_run _ 61 110 [some (.ref 41), some (.int (l1 + 0)), some (.int l2), some (.int 0), some (.int l4), some (.int l5), some (.int 1)] [.int 1, .int l2] (zz_S F I J) _ _
                    refine zs_61_110 ?_
                    refine And.intro (rfl) (And.intro (rfl) ?_)
                    have g5 : ¬ (l5 < 0 ∨ 12 ≤ l5.toNatClampNeg) := zz_g hr
                    replace hr := zz_gt hr
                    refine And.intro (g5) (And.intro (rfl) (And.intro (rfl) (And.intro (And.intro rfl rfl) ?_)))
                    exact zz_wk [true, true, true, true, true, true, false] rfl (ih25 _ _ _ _ _ _ _ _ hr)
                  · rw [if_neg h10] at hr
                    show zz_run _ 61 110 [some (.ref 41), some (.int (l1 + 0)), some (.int l2), some (.int 0), some (.int l4), some (.int l5), some (.int 1)] [.int 0, .int l2] (zz_S F I J) _ _
                    refine zs_61_110 ?_
                    refine And.intro (rfl) (And.intro (rfl) ?_)
                    have g6 : ¬ (l5 < 0 ∨ 12 ≤ l5.toNatClampNeg) := zz_g hr
                    replace hr := zz_gt hr
                    refine And.intro (g6) (And.intro (rfl) (And.intro (rfl) (And.intro (And.intro rfl rfl) ?_)))
                    exact zz_wk [true, true, true, true, true, true, false] rfl (ih25 _ _ _ _ _ _ _ _ hr)
                · rw [if_neg h9] at hr
                  show zz_run _ 61 97 [some (.ref 41), some (.int l1), some (.int l2), some (.int 0), some (.int l4), some (.int l5), some (.int 1)] [.int 1, .int l1] (zz_S F I J) _ _
                  refine zs_61_97 ?_
                  refine And.intro (fun (h11 : (1 : Int32) = 0) => ?_) (fun (h11 : ¬ ((1 : Int32) = 0)) => ?_)
                  · rw [if_pos h11] at hr
                    show zz_run _ 61 109 [some (.ref 41), some (.int (l1 + 1)), some (.int l2), some (.int 0), some (.int l4), some (.int l5), some (.int 1)] [.int l2] (zz_S F I J) _ _
                    refine zs_61_109 ?_
                    show zz_run _ 61 110 [some (.ref 41), some (.int (l1 + 1)), some (.int l2), some (.int 0), some (.int l4), some (.int l5), some (.int 1)] [.int 1, .int l2] (zz_S F I J) _ _
                    refine zs_61_110 ?_
                    refine And.intro (rfl) (And.intro (rfl) ?_)
                    have g7 : ¬ (l5 < 0 ∨ 12 ≤ l5.toNatClampNeg) := zz_g hr
                    replace hr := zz_gt hr
                    refine And.intro (g7) (And.intro (rfl) (And.intro (rfl) (And.intro (And.intro rfl rfl) ?_)))
                    exact zz_wk [true, true, true, true, true, true, false] rfl (ih25 _ _ _ _ _ _ _ _ hr)
                  · rw [if_neg h11] at hr
                    show zz_run _ 61 110 [some (.ref 41), some (.int (l1 + 1)), some (.int l2), some (.int 0), some (.int l4), some (.int l5), some (.int 1)] [.int 0, .int l2] (zz_S F I J) _ _
                    refine zs_61_110 ?_
                    refine And.intro (rfl) (And.intro (rfl) ?_)
                    have g8 : ¬ (l5 < 0 ∨ 12 ≤ l5.toNatClampNeg) := zz_g hr
                    replace hr := zz_gt hr
                    refine And.intro (g8) (And.intro (rfl) (And.intro (rfl) (And.intro (And.intro rfl rfl) ?_)))
                    exact zz_wk [true, true, true, true, true, true, false] rfl (ih25 _ _ _ _ _ _ _ _ hr)
    · intro l1 l2 l3 l4 l5 I J r hr
      rw [ze_X4_findShortestTurns_72] at hr
      unfold zb_X4_findShortestTurns_72 at hr
      refine zs_61_72 ?_
      show zz_run _ 61 73 [some (.ref 41), some (.int l1), some (.int l2), none, some (.int l4), some (.int l5), none] [.int 0] (zz_S F I J) _ _
      refine zs_61_73 ?_
      refine And.intro (fun (h12 : (0 : Int32) = 0) => ?_) (fun (h12 : ¬ ((0 : Int32) = 0)) => ?_)
      · rw [if_pos h12] at hr
        show zz_run _ 61 84 [some (.ref 41), some (.int l1), some (.int l2), none, some (.int l4), some (.int l5), some (.int 0)] [] (zz_S F I J) _ _
        refine zs_61_84 ?_
        show zz_run _ 61 85 [some (.ref 41), some (.int l1), some (.int l2), none, some (.int l4), some (.int l5), some (.int 0)] [.int 1] (zz_S F I J) _ _
        refine zs_61_85 ?_
        refine And.intro (fun (h13 : (0 : Int32) = 0) => ?_) (fun (h13 : ¬ ((0 : Int32) = 0)) => ?_)
        · rw [if_pos h13] at hr
          show zz_run _ 61 96 [some (.ref 41), some (.int l1), some (.int l2), some (.int 1), some (.int l4), some (.int l5), some (.int 0)] [.int l1] (zz_S F I J) _ _
          refine zs_61_96 ?_
          show zz_run _ 61 97 [some (.ref 41), some (.int l1), some (.int l2), some (.int 1), some (.int l4), some (.int l5), some (.int 0)] [.int 0, .int l1] (zz_S F I J) _ _
          refine zs_61_97 ?_
          refine And.intro (fun (h14 : (0 : Int32) = 0) => ?_) (fun (h14 : ¬ ((0 : Int32) = 0)) => ?_)
          · rw [if_pos h14] at hr
            show zz_run _ 61 109 [some (.ref 41), some (.int (l1 + 0)), some (.int l2), some (.int 1), some (.int l4), some (.int l5), some (.int 0)] [.int l2] (zz_S F I J) _ _
            refine zs_61_109 ?_
            show zz_run _ 61 110 [some (.ref 41), some (.int (l1 + 0)), some (.int l2), some (.int 1), some (.int l4), some (.int l5), some (.int 0)] [.int 1, .int l2] (zz_S F I J) _ _
            refine zs_61_110 ?_
            refine And.intro (rfl) (And.intro (rfl) ?_)
            have g9 : ¬ (l5 < 0 ∨ 12 ≤ l5.toNatClampNeg) := zz_g hr
            replace hr := zz_gt hr
            refine And.intro (g9) (And.intro (rfl) (And.intro (rfl) (And.intro (And.intro rfl rfl) ?_)))
            exact zz_wk [true, true, true, true, true, true, false] rfl (ih25 _ _ _ _ _ _ _ _ hr)
          · rw [if_neg h14] at hr
            show zz_run _ 61 110 [some (.ref 41), some (.int (l1 + 0)), some (.int l2), some (.int 1), some (.int l4), some (.int l5), some (.int 0)] [.int 0, .int l2] (zz_S F I J) _ _
            refine zs_61_110 ?_
            refine And.intro (rfl) (And.intro (rfl) ?_)
            have g10 : ¬ (l5 < 0 ∨ 12 ≤ l5.toNatClampNeg) := zz_g hr
            replace hr := zz_gt hr
            refine And.intro (g10) (And.intro (rfl) (And.intro (rfl) (And.intro (And.intro rfl rfl) ?_)))
            exact zz_wk [true, true, true, true, true, true, false] rfl (ih25 _ _ _ _ _ _ _ _ hr)
        · rw [if_neg h13] at hr
          show zz_run _ 61 97 [some (.ref 41), some (.int l1), some (.int l2), some (.int 1), some (.int l4), some (.int l5), some (.int 0)] [.int 1, .int l1] (zz_S F I J) _ _
          refine zs_61_97 ?_
          refine And.intro (fun (h15 : (0 : Int32) = 0) => ?_) (fun (h15 : ¬ ((0 : Int32) = 0)) => ?_)
          · rw [if_pos h15] at hr
            show zz_run _ 61 109 [some (.ref 41), some (.int (l1 + 1)), some (.int l2), some (.int 1), some (.int l4), some (.int l5), some (.int 0)] [.int l2] (zz_S F I J) _ _
            refine zs_61_109 ?_
            show zz_run _ 61 110 [some (.ref 41), some (.int (l1 + 1)), some (.int l2), some (.int 1), some (.int l4), some (.int l5), some (.int 0)] [.int 1, .int l2] (zz_S F I J) _ _
            refine zs_61_110 ?_
            refine And.intro (rfl) (And.intro (rfl) ?_)
            have g11 : ¬ (l5 < 0 ∨ 12 ≤ l5.toNatClampNeg) := zz_g hr
            replace hr := zz_gt hr
            refine And.intro (g11) (And.intro (rfl) (And.intro (rfl) (And.intro (And.intro rfl rfl) ?_)))
            exact zz_wk [true, true, true, true, true, true, false] rfl (ih25 _ _ _ _ _ _ _ _ hr)
          · rw [if_neg h15] at hr
            show zz_run _ 61 110 [some (.ref 41), some (.int (l1 + 1)), some (.int l2), some (.int 1), some (.int l4), some (.int l5), some (.int 0)] [.int 0, .int l2] (zz_S F I J) _ _
            refine zs_61_110 ?_
            refine And.intro (rfl) (And.intro (rfl) ?_)
            have g12 : ¬ (l5 < 0 ∨ 12 ≤ l5.toNatClampNeg) := zz_g hr
            replace hr := zz_gt hr
            refine And.intro (g12) (And.intro (rfl) (And.intro (rfl) (And.intro (And.intro rfl rfl) ?_)))
            exact zz_wk [true, true, true, true, true, true, false] rfl (ih25 _ _ _ _ _ _ _ _ hr)
      · rw [if_neg h12] at hr
        show zz_run _ 61 85 [some (.ref 41), some (.int l1), some (.int l2), none, some (.int l4), some (.int l5), some (.int 0)] [.int 0] (zz_S F I J) _ _
        refine zs_61_85 ?_
        refine And.intro (fun (h16 : (0 : Int32) = 0) => ?_) (fun (h16 : ¬ ((0 : Int32) = 0)) => ?_)
        · rw [if_pos h16] at hr
          show zz_run _ 61 96 [some (.ref 41), some (.int l1), some (.int l2), some (.int 0), some (.int l4), some (.int l5), some (.int 0)] [.int l1] (zz_S F I J) _ _
          refine zs_61_96 ?_
          show zz_run _ 61 97 [some (.ref 41), some (.int l1), some (.int l2), some (.int 0), some (.int l4), some (.int l5), some (.int 0)] [.int 0, .int l1] (zz_S F I J) _ _
          refine zs_61_97 ?_
          refine And.intro (fun (h17 : (0 : Int32) = 0) => ?_) (fun (h17 : ¬ ((0 : Int32) = 0)) => ?_)
          · rw [if_pos h17] at hr
            show zz_run _ 61 109 [some (.ref 41), some (.int (l1 + 0)), some (.int l2), some (.int 0), some (.int l4), some (.int l5), some (.int 0)] [.int l2] (zz_S F I J) _ _
            refine zs_61_109 ?_
            show zz_run _ 61 110 [some (.ref 41), some (.int (l1 + 0)), some (.int l2), some (.int 0), some (.int l4), some (.int l5), some (.int 0)] [.int 1, .int l2] (zz_S F I J) _ _
            refine zs_61_110 ?_
            refine And.intro (rfl) (And.intro (rfl) ?_)
            have g13 : ¬ (l5 < 0 ∨ 12 ≤ l5.toNatClampNeg) := zz_g hr
            replace hr := zz_gt hr
            refine And.intro (g13) (And.intro (rfl) (And.intro (rfl) (And.intro (And.intro rfl rfl) ?_)))
            exact zz_wk [true, true, true, true, true, true, false] rfl (ih25 _ _ _ _ _ _ _ _ hr)
          · rw [if_neg h17] at hr
            show zz_run _ 61 110 [some (.ref 41), some (.int (l1 + 0)), some (.int l2), some (.int 0), some (.int l4), some (.int l5), some (.int 0)] [.int 0, .int l2] (zz_S F I J) _ _
            refine zs_61_110 ?_
            refine And.intro (rfl) (And.intro (rfl) ?_)
            have g14 : ¬ (l5 < 0 ∨ 12 ≤ l5.toNatClampNeg) := zz_g hr
            replace hr := zz_gt hr
            refine And.intro (g14) (And.intro (rfl) (And.intro (rfl) (And.intro (And.intro rfl rfl) ?_)))
            exact zz_wk [true, true, true, true, true, true, false] rfl (ih25 _ _ _ _ _ _ _ _ hr)
        · rw [if_neg h16] at hr
          show zz_run _ 61 97 [some (.ref 41), some (.int l1), some (.int l2), some (.int 0), some (.int l4), some (.int l5), some (.int 0)] [.int 1, .int l1] (zz_S F I J) _ _
          refine zs_61_97 ?_
          refine And.intro (fun (h18 : (0 : Int32) = 0) => ?_) (fun (h18 : ¬ ((0 : Int32) = 0)) => ?_)
          · rw [if_pos h18] at hr
            show zz_run _ 61 109 [some (.ref 41), some (.int (l1 + 1)), some (.int l2), some (.int 0), some (.int l4), some (.int l5), some (.int 0)] [.int l2] (zz_S F I J) _ _
            refine zs_61_109 ?_
            show zz_run _ 61 110 [some (.ref 41), some (.int (l1 + 1)), some (.int l2), some (.int 0), some (.int l4), some (.int l5), some (.int 0)] [.int 1, .int l2] (zz_S F I J) _ _
            refine zs_61_110 ?_
            refine And.intro (rfl) (And.intro (rfl) ?_)
            have g15 : ¬ (l5 < 0 ∨ 12 ≤ l5.toNatClampNeg) := zz_g hr
            replace hr := zz_gt hr
            refine And.intro (g15) (And.intro (rfl) (And.intro (rfl) (And.intro (And.intro rfl rfl) ?_)))
            exact zz_wk [true, true, true, true, true, true, false] rfl (ih25 _ _ _ _ _ _ _ _ hr)
          · rw [if_neg h18] at hr
            show zz_run _ 61 110 [some (.ref 41), some (.int (l1 + 1)), some (.int l2), some (.int 0), some (.int l4), some (.int l5), some (.int 0)] [.int 0, .int l2] (zz_S F I J) _ _
            refine zs_61_110 ?_
            refine And.intro (rfl) (And.intro (rfl) ?_)
            have g16 : ¬ (l5 < 0 ∨ 12 ≤ l5.toNatClampNeg) := zz_g hr
            replace hr := zz_gt hr
            refine And.intro (g16) (And.intro (rfl) (And.intro (rfl) (And.intro (And.intro rfl rfl) ?_)))
            exact zz_wk [true, true, true, true, true, true, false] rfl (ih25 _ _ _ _ _ _ _ _ hr)
    · intro l1 l2 l3 l4 l5 I J r hr
      rw [ze_X4_findShortestTurns_134] at hr
      unfold zb_X4_findShortestTurns_134 at hr
      refine zs_61_134 ?_
      replace hr := Option.some.inj hr
      subst hr
      exact And.intro rfl (And.intro rfl rfl)
theorem zr_X4_findShortestTurns (F : zz_F) (I : Nat → Nat → Int32) (J : Nat → Nat → Int64) (d N : Nat)  (r : Int32 × (Nat → Nat → Int32) × (Nat → Nat → Int64)) (h : zf_X4_findShortestTurns N  I J = some r) : zz_run (d+2) 61 0 [some (.ref 41), none, none, none, none, none, none] [] (zz_S F I J) none (zz_S F (r.2.1) J) := (zq_X4_findShortestTurns F d N N).1 0 0 0 0 0 I J r h
def zb_X4_followLatest_0 (N : Nat) (rec : Nat → Int32 → Int32 → Int32 → Int32 → Int32 → Int32 → (Nat → Nat → Int32) → (Nat → Nat → Int64) → Option (Int32 × (Nat → Nat → Int32) × (Nat → Nat → Int64))) (l1 : Int32) (l2 : Int32) (l3 : Int32) (l4 : Int32) (l5 : Int32) (l6 : Int32) (I : Nat → Nat → Int32) (J : Nat → Nat → Int64) : Option (Int32 × (Nat → Nat → Int32) × (Nat → Nat → Int64)) := rec 23 0 0 0 0 ((I 41 6) + (I 41 7)) 0 I J
def zb_X4_followLatest_23 (N : Nat) (rec : Nat → Int32 → Int32 → Int32 → Int32 → Int32 → Int32 → (Nat → Nat → Int32) → (Nat → Nat → Int64) → Option (Int32 × (Nat → Nat → Int32) × (Nat → Nat → Int64))) (l1 : Int32) (l2 : Int32) (l3 : Int32) (l4 : Int32) (l5 : Int32) (l6 : Int32) (I : Nat → Nat → Int32) (J : Nat → Nat → Int64) : Option (Int32 × (Nat → Nat → Int32) × (Nat → Nat → Int64)) := if l5 ≤ l6 then (rec 138 0 0 0 0 0 0 I J) else (if (nI 12) ≤ l6 then (rec 138 0 0 0 0 0 0 I J) else (if (zv_X4_latestBy I l1 l2 l3 0) < l4 then (if (0 : Int32) = 0 then (if (0 : Int32) = 0 then (if (0 : Int32) = 0 then (if ¬ (l6 < 0 ∨ 12 ≤ l6.toNatClampNeg) then (rec 23 (l1 + 0) (l2 + 1) 1 (l4 + (zv_X4_stepBy I l1 l2 l3 1)) l5 (l6 + 1) (zz_u (zz_u I 45 l6.toNatClampNeg 1) 41 5 (l6 + 1)) J) else none) else (if ¬ (l6 < 0 ∨ 12 ≤ l6.toNatClampNeg) then (rec 23 (l1 + 0) (l2 + 0) 1 (l4 + (zv_X4_stepBy I l1 l2 l3 1)) l5 (l6 + 1) (zz_u (zz_u I 45 l6.toNatClampNeg 1) 41 5 (l6 + 1)) J) else none)) else (if (0 : Int32) = 0 then (if ¬ (l6 < 0 ∨ 12 ≤ l6.toNatClampNeg) then (rec 23 (l1 + 1) (l2 + 1) 1 (l4 + (zv_X4_stepBy I l1 l2 l3 1)) l5 (l6 + 1) (zz_u (zz_u I 45 l6.toNatClampNeg 1) 41 5 (l6 + 1)) J) else none) else (if ¬ (l6 < 0 ∨ 12 ≤ l6.toNatClampNeg) then (rec 23 (l1 + 1) (l2 + 0) 1 (l4 + (zv_X4_stepBy I l1 l2 l3 1)) l5 (l6 + 1) (zz_u (zz_u I 45 l6.toNatClampNeg 1) 41 5 (l6 + 1)) J) else none))) else (if (0 : Int32) = 0 then (if (0 : Int32) = 0 then (if ¬ (l6 < 0 ∨ 12 ≤ l6.toNatClampNeg) then (rec 23 (l1 + 0) (l2 + 1) 0 (l4 + (zv_X4_stepBy I l1 l2 l3 0)) l5 (l6 + 1) (zz_u (zz_u I 45 l6.toNatClampNeg 0) 41 5 (l6 + 1)) J) else none) else (if ¬ (l6 < 0 ∨ 12 ≤ l6.toNatClampNeg) then (rec 23 (l1 + 0) (l2 + 0) 0 (l4 + (zv_X4_stepBy I l1 l2 l3 0)) l5 (l6 + 1) (zz_u (zz_u I 45 l6.toNatClampNeg 0) 41 5 (l6 + 1)) J) else none)) else (if (0 : Int32) = 0 then (if ¬ (l6 < 0 ∨ 12 ≤ l6.toNatClampNeg) then (rec 23 (l1 + 1) (l2 + 1) 0 (l4 + (zv_X4_stepBy I l1 l2 l3 0)) l5 (l6 + 1) (zz_u (zz_u I 45 l6.toNatClampNeg 0) 41 5 (l6 + 1)) J) else none) else (if ¬ (l6 < 0 ∨ 12 ≤ l6.toNatClampNeg) then (rec 23 (l1 + 1) (l2 + 0) 0 (l4 + (zv_X4_stepBy I l1 l2 l3 0)) l5 (l6 + 1) (zz_u (zz_u I 45 l6.toNatClampNeg 0) 41 5 (l6 + 1)) J) else none)))) else (if (1 : Int32) = 0 then (if (1 : Int32) = 0 then (if (1 : Int32) = 0 then (if ¬ (l6 < 0 ∨ 12 ≤ l6.toNatClampNeg) then (rec 23 (l1 + 0) (l2 + 1) 1 (l4 + (zv_X4_stepBy I l1 l2 l3 1)) l5 (l6 + 1) (zz_u (zz_u I 45 l6.toNatClampNeg 1) 41 5 (l6 + 1)) J) else none) else (if ¬ (l6 < 0 ∨ 12 ≤ l6.toNatClampNeg) then (rec 23 (l1 + 0) (l2 + 0) 1 (l4 + (zv_X4_stepBy I l1 l2 l3 1)) l5 (l6 + 1) (zz_u (zz_u I 45 l6.toNatClampNeg 1) 41 5 (l6 + 1)) J) else none)) else (if (1 : Int32) = 0 then (if ¬ (l6 < 0 ∨ 12 ≤ l6.toNatClampNeg) then (rec 23 (l1 + 1) (l2 + 1) 1 (l4 + (zv_X4_stepBy I l1 l2 l3 1)) l5 (l6 + 1) (zz_u (zz_u I 45 l6.toNatClampNeg 1) 41 5 (l6 + 1)) J) else none) else (if ¬ (l6 < 0 ∨ 12 ≤ l6.toNatClampNeg) then (rec 23 (l1 + 1) (l2 + 0) 1 (l4 + (zv_X4_stepBy I l1 l2 l3 1)) l5 (l6 + 1) (zz_u (zz_u I 45 l6.toNatClampNeg 1) 41 5 (l6 + 1)) J) else none))) else (if (1 : Int32) = 0 then (if (1 : Int32) = 0 then (if ¬ (l6 < 0 ∨ 12 ≤ l6.toNatClampNeg) then (rec 23 (l1 + 0) (l2 + 1) 0 (l4 + (zv_X4_stepBy I l1 l2 l3 0)) l5 (l6 + 1) (zz_u (zz_u I 45 l6.toNatClampNeg 0) 41 5 (l6 + 1)) J) else none) else (if ¬ (l6 < 0 ∨ 12 ≤ l6.toNatClampNeg) then (rec 23 (l1 + 0) (l2 + 0) 0 (l4 + (zv_X4_stepBy I l1 l2 l3 0)) l5 (l6 + 1) (zz_u (zz_u I 45 l6.toNatClampNeg 0) 41 5 (l6 + 1)) J) else none)) else (if (1 : Int32) = 0 then (if ¬ (l6 < 0 ∨ 12 ≤ l6.toNatClampNeg) then (rec 23 (l1 + 1) (l2 + 1) 0 (l4 + (zv_X4_stepBy I l1 l2 l3 0)) l5 (l6 + 1) (zz_u (zz_u I 45 l6.toNatClampNeg 0) 41 5 (l6 + 1)) J) else none) else (if ¬ (l6 < 0 ∨ 12 ≤ l6.toNatClampNeg) then (rec 23 (l1 + 1) (l2 + 0) 0 (l4 + (zv_X4_stepBy I l1 l2 l3 0)) l5 (l6 + 1) (zz_u (zz_u I 45 l6.toNatClampNeg 0) 41 5 (l6 + 1)) J) else none))))))
def zb_X4_followLatest_138 (N : Nat) (rec : Nat → Int32 → Int32 → Int32 → Int32 → Int32 → Int32 → (Nat → Nat → Int32) → (Nat → Nat → Int64) → Option (Int32 × (Nat → Nat → Int32) × (Nat → Nat → Int64))) (l1 : Int32) (l2 : Int32) (l3 : Int32) (l4 : Int32) (l5 : Int32) (l6 : Int32) (I : Nat → Nat → Int32) (J : Nat → Nat → Int64) : Option (Int32 × (Nat → Nat → Int32) × (Nat → Nat → Int64)) := some (0, I, J)
def zl_X4_followLatest (N : Nat) : Nat → Nat → Int32 → Int32 → Int32 → Int32 → Int32 → Int32 → (Nat → Nat → Int32) → (Nat → Nat → Int64) → Option (Int32 × (Nat → Nat → Int32) × (Nat → Nat → Int64))
  | 0 => fun _ _ _ _ _ _ _ _ _ => none
  | n + 1 => fun pc l1 l2 l3 l4 l5 l6 I J => if pc = 0 then zb_X4_followLatest_0 N (zl_X4_followLatest N n) l1 l2 l3 l4 l5 l6 I J else (if pc = 23 then zb_X4_followLatest_23 N (zl_X4_followLatest N n) l1 l2 l3 l4 l5 l6 I J else (if pc = 138 then zb_X4_followLatest_138 N (zl_X4_followLatest N n) l1 l2 l3 l4 l5 l6 I J else none))
theorem ze_X4_followLatest_0 (N : Nat) (n : Nat) (l1 : Int32) (l2 : Int32) (l3 : Int32) (l4 : Int32) (l5 : Int32) (l6 : Int32) (I : Nat → Nat → Int32) (J : Nat → Nat → Int64) : zl_X4_followLatest N (n+1) 0 l1 l2 l3 l4 l5 l6 I J = zb_X4_followLatest_0 N (zl_X4_followLatest N n) l1 l2 l3 l4 l5 l6 I J := by
  show (if 0 = 0 then zb_X4_followLatest_0 N (zl_X4_followLatest N n) l1 l2 l3 l4 l5 l6 I J else (if 0 = 23 then zb_X4_followLatest_23 N (zl_X4_followLatest N n) l1 l2 l3 l4 l5 l6 I J else (if 0 = 138 then zb_X4_followLatest_138 N (zl_X4_followLatest N n) l1 l2 l3 l4 l5 l6 I J else none))) = _
  rw [if_pos rfl]
theorem ze_X4_followLatest_23 (N : Nat) (n : Nat) (l1 : Int32) (l2 : Int32) (l3 : Int32) (l4 : Int32) (l5 : Int32) (l6 : Int32) (I : Nat → Nat → Int32) (J : Nat → Nat → Int64) : zl_X4_followLatest N (n+1) 23 l1 l2 l3 l4 l5 l6 I J = zb_X4_followLatest_23 N (zl_X4_followLatest N n) l1 l2 l3 l4 l5 l6 I J := by
  show (if 23 = 0 then zb_X4_followLatest_0 N (zl_X4_followLatest N n) l1 l2 l3 l4 l5 l6 I J else (if 23 = 23 then zb_X4_followLatest_23 N (zl_X4_followLatest N n) l1 l2 l3 l4 l5 l6 I J else (if 23 = 138 then zb_X4_followLatest_138 N (zl_X4_followLatest N n) l1 l2 l3 l4 l5 l6 I J else none))) = _
  rw [if_neg (by decide), if_pos rfl]
theorem ze_X4_followLatest_138 (N : Nat) (n : Nat) (l1 : Int32) (l2 : Int32) (l3 : Int32) (l4 : Int32) (l5 : Int32) (l6 : Int32) (I : Nat → Nat → Int32) (J : Nat → Nat → Int64) : zl_X4_followLatest N (n+1) 138 l1 l2 l3 l4 l5 l6 I J = zb_X4_followLatest_138 N (zl_X4_followLatest N n) l1 l2 l3 l4 l5 l6 I J := by
  show (if 138 = 0 then zb_X4_followLatest_0 N (zl_X4_followLatest N n) l1 l2 l3 l4 l5 l6 I J else (if 138 = 23 then zb_X4_followLatest_23 N (zl_X4_followLatest N n) l1 l2 l3 l4 l5 l6 I J else (if 138 = 138 then zb_X4_followLatest_138 N (zl_X4_followLatest N n) l1 l2 l3 l4 l5 l6 I J else none))) = _
  rw [if_neg (by decide), if_neg (by decide), if_pos rfl]
def zf_X4_followLatest (N : Nat)  (I : Nat → Nat → Int32) (J : Nat → Nat → Int64) : Option (Int32 × (Nat → Nat → Int32) × (Nat → Nat → Int64)) := zl_X4_followLatest N N 0 0 0 0 0 0 0 I J
theorem zq_X4_followLatest (F : zz_F) (d N : Nat) : ∀ n : Nat, (∀ (l1 : Int32) (l2 : Int32) (l3 : Int32) (l4 : Int32) (l5 : Int32) (l6 : Int32) (I : Nat → Nat → Int32) (J : Nat → Nat → Int64) (r : Int32 × (Nat → Nat → Int32) × (Nat → Nat → Int64)), zl_X4_followLatest N n 0 l1 l2 l3 l4 l5 l6 I J = some r → zz_run (d+2) 66 0 [some (.ref 41), none, none, none, none, none, none, none, none] [] (zz_S F I J) none (zz_S F (r.2.1) J)) ∧ (∀ (l1 : Int32) (l2 : Int32) (l3 : Int32) (l4 : Int32) (l5 : Int32) (l6 : Int32) (I : Nat → Nat → Int32) (J : Nat → Nat → Int64) (r : Int32 × (Nat → Nat → Int32) × (Nat → Nat → Int64)), zl_X4_followLatest N n 23 l1 l2 l3 l4 l5 l6 I J = some r → zz_run (d+2) 66 23 [some (.ref 41), some (.int l1), some (.int l2), some (.int l3), some (.int l4), some (.int l5), some (.int l6), none, none] [] (zz_S F I J) none (zz_S F (r.2.1) J)) ∧ (∀ (l1 : Int32) (l2 : Int32) (l3 : Int32) (l4 : Int32) (l5 : Int32) (l6 : Int32) (I : Nat → Nat → Int32) (J : Nat → Nat → Int64) (r : Int32 × (Nat → Nat → Int32) × (Nat → Nat → Int64)), zl_X4_followLatest N n 138 l1 l2 l3 l4 l5 l6 I J = some r → zz_run (d+2) 66 138 [some (.ref 41), none, none, none, none, none, none, none, none] [] (zz_S F I J) none (zz_S F (r.2.1) J)) := by
  intro n
  induction n with
  | zero => exact ⟨fun _ _ _ _ _ _ _ _ _ h => zz_no h, fun _ _ _ _ _ _ _ _ _ h => zz_no h, fun _ _ _ _ _ _ _ _ _ h => zz_no h⟩
  | succ n ih =>
    obtain ⟨ih0, ih23, ih138⟩ := ih
    refine ⟨?_, ?_, ?_⟩
    · intro l1 l2 l3 l4 l5 l6 I J r hr
      rw [ze_X4_followLatest_0] at hr
      unfold zb_X4_followLatest_0 at hr
      refine zs_66_0 ?_
      refine And.intro (rfl) (And.intro (rfl) ?_)
      exact zz_wk [true, true, true, true, true, true, true, false, false] rfl (ih23 _ _ _ _ _ _ _ _ _ hr)
    · intro l1 l2 l3 l4 l5 l6 I J r hr
      rw [ze_X4_followLatest_23] at hr
      unfold zb_X4_followLatest_23 at hr
      refine zs_66_23 ?_
      refine And.intro (fun (h1 : l5 ≤ l6) => ?_) (fun (h1 : ¬ (l5 ≤ l6)) => ?_)
      · rw [if_pos h1] at hr
        exact zz_wk [true, false, false, false, false, false, false, false, false] rfl (ih138 _ _ _ _ _ _ _ _ _ hr)
      · rw [if_neg h1] at hr
        refine And.intro (rfl) (And.intro (Nat.le_of_ble_eq_true rfl) (And.intro (Nat.le_of_ble_eq_true rfl) (And.intro (fun (h2 : (nI 12) ≤ l6) => ?_) (fun (h2 : ¬ ((nI 12) ≤ l6)) => ?_))))
        · rw [if_pos h2] at hr
          exact zz_wk [true, false, false, false, false, false, false, false, false] rfl (ih138 _ _ _ _ _ _ _ _ _ hr)
        · rw [if_neg h2] at hr
          refine And.intro (rfl) (And.intro (Nat.le_of_ble_eq_true rfl) (And.intro (Nat.le_of_ble_eq_true rfl) (And.intro (Nat.le_of_ble_eq_true rfl) ?_)))
          refine Exists.intro _ (Exists.intro _ (And.intro (zr_X4_latestBy F I J d l1 l2 l3 0) ?_))
          refine And.intro (fun (h3 : (zv_X4_latestBy I l1 l2 l3 0) < l4) => ?_) (fun (h3 : ¬ ((zv_X4_latestBy I l1 l2 l3 0) < l4)) => ?_)
          · rw [if_pos h3] at hr
            show zz_run _ 66 57 [some (.ref 41), some (.int l1), some (.int l2), some (.int l3), some (.int l4), some (.int l5), some (.int l6), none, none] [] (zz_S F I J) _ _
            refine zs_66_57 ?_
            show zz_run _ 66 58 [some (.ref 41), some (.int l1), some (.int l2), some (.int l3), some (.int l4), some (.int l5), some (.int l6), none, none] [.int 0] (zz_S F I J) _ _
            refine zs_66_58 ?_
            refine And.intro (fun (h4 : (0 : Int32) = 0) => ?_) (fun (h4 : ¬ ((0 : Int32) = 0)) => ?_)
            · rw [if_pos h4] at hr
              show zz_run _ 66 69 [some (.ref 41), some (.int l1), some (.int l2), some (.int l3), some (.int l4), some (.int l5), some (.int l6), some (.int 0), none] [] (zz_S F I J) _ _
              refine zs_66_69 ?_
              show zz_run _ 66 70 [some (.ref 41), some (.int l1), some (.int l2), some (.int l3), some (.int l4), some (.int l5), some (.int l6), some (.int 0), none] [.int 1] (zz_S F I J) _ _
              refine zs_66_70 ?_
              refine And.intro (rfl) (And.intro (Nat.le_of_ble_eq_true rfl) (And.intro (Nat.le_of_ble_eq_true rfl) (And.intro (Nat.le_of_ble_eq_true rfl) ?_)))
              refine Exists.intro _ (Exists.intro _ (And.intro (zr_X4_stepBy F I J (d+1) l1 l2 l3 1) ?_))
              refine And.intro (fun (h5 : (0 : Int32) = 0) => ?_) (fun (h5 : ¬ ((0 : Int32) = 0)) => ?_)
              · rw [if_pos h5] at hr
                show zz_run _ 66 99 [some (.ref 41), some (.int l1), some (.int l2), some (.int 1), some (.int (l4 + (zv_X4_stepBy I l1 l2 l3 1))), some (.int l5), some (.int l6), some (.int 0), some (.int 1)] [.int l1] (zz_S F I J) _ _
                refine zs_66_99 ?_
                show zz_run _ 66 100 [some (.ref 41), some (.int l1), some (.int l2), some (.int 1), some (.int (l4 + (zv_X4_stepBy I l1 l2 l3 1))), some (.int l5), some (.int l6), some (.int 0), some (.int 1)] [.int 0, .int l1] (zz_S F I J) _ _
                refine zs_66_100 ?_
                refine And.intro (fun (h6 : (0 : Int32) = 0) => ?_) (fun (h6 : ¬ ((0 : Int32) = 0)) => ?_)
                · rw [if_pos h6] at hr
                  show zz_run _ 66 112 [some (.ref 41), some (.int (l1 + 0)), some (.int l2), some (.int 1), some (.int (l4 + (zv_X4_stepBy I l1 l2 l3 1))), some (.int l5), some (.int l6), some (.int 0), some (.int 1)] [.int l2] (zz_S F I J) _ _
                  refine zs_66_112 ?_
                  show zz_run _ 66 113 [some (.ref 41), some (.int (l1 + 0)), some (.int l2), some (.int 1), some (.int (l4 + (zv_X4_stepBy I l1 l2 l3 1))), some (.int l5), some (.int l6), some (.int 0), some (.int 1)] [.int 1, .int l2] (zz_S F I J) _ _
                  refine zs_66_113 ?_
                  refine And.intro (rfl) (And.intro (rfl) ?_)
                  have g1 : ¬ (l6 < 0 ∨ 12 ≤ l6.toNatClampNeg) := zz_g hr
                  replace hr := zz_gt hr
                  refine And.intro (g1) (And.intro (rfl) (And.intro (rfl) (And.intro (And.intro rfl rfl) ?_)))
                  exact zz_wk [true, true, true, true, true, true, true, false, false] rfl (ih23 _ _ _ _ _ _ _ _ _ hr)
                · rw [if_neg h6] at hr
                  show zz_run _ 66 113 [some (.ref 41), some (.int (l1 + 0)), some (.int l2), some (.int 1), some (.int (l4 + (zv_X4_stepBy I l1 l2 l3 1))), some (.int l5), some (.int l6), some (.int 0), some (.int 1)] [.int 0, .int l2] (zz_S F I J) _ _
                  refine zs_66_113 ?_
                  refine And.intro (rfl) (And.intro (rfl) ?_)
                  have g2 : ¬ (l6 < 0 ∨ 12 ≤ l6.toNatClampNeg) := zz_g hr
                  replace hr := zz_gt hr
                  refine And.intro (g2) (And.intro (rfl) (And.intro (rfl) (And.intro (And.intro rfl rfl) ?_)))
                  exact zz_wk [true, true, true, true, true, true, true, false, false] rfl (ih23 _ _ _ _ _ _ _ _ _ hr)
              · rw [if_neg h5] at hr
                show zz_run _ 66 100 [some (.ref 41), some (.int l1), some (.int l2), some (.int 1), some (.int (l4 + (zv_X4_stepBy I l1 l2 l3 1))), some (.int l5), some (.int l6), some (.int 0), some (.int 1)] [.int 1, .int l1] (zz_S F I J) _ _
                refine zs_66_100 ?_
                refine And.intro (fun (h7 : (0 : Int32) = 0) => ?_) (fun (h7 : ¬ ((0 : Int32) = 0)) => ?_)
                · rw [if_pos h7] at hr
                  show zz_run _ 66 112 [some (.ref 41), some (.int (l1 + 1)), some (.int l2), some (.int 1), some (.int (l4 + (zv_X4_stepBy I l1 l2 l3 1))), some (.int l5), some (.int l6), some (.int 0), some (.int 1)] [.int l2] (zz_S F I J) _ _
                  refine zs_66_112 ?_
                  show zz_run _ 66 113 [some (.ref 41), some (.int (l1 + 1)), some (.int l2), some (.int 1), some (.int (l4 + (zv_X4_stepBy I l1 l2 l3 1))), some (.int l5), some (.int l6), some (.int 0), some (.int 1)] [.int 1, .int l2] (zz_S F I J) _ _
                  refine zs_66_113 ?_
                  refine And.intro (rfl) (And.intro (rfl) ?_)
                  have g3 : ¬ (l6 < 0 ∨ 12 ≤ l6.toNatClampNeg) := zz_g hr
                  replace hr := zz_gt hr
                  refine And.intro (g3) (And.intro (rfl) (And.intro (rfl) (And.intro (And.intro rfl rfl) ?_)))
                  exact zz_wk [true, true, true, true, true, true, true, false, false] rfl (ih23 _ _ _ _ _ _ _ _ _ hr)
                · rw [if_neg h7] at hr
                  show zz_run _ 66 113 [some (.ref 41), some (.int (l1 + 1)), some (.int l2), some (.int 1), some (.int (l4 + (zv_X4_stepBy I l1 l2 l3 1))), some (.int l5), some (.int l6), some (.int 0), some (.int 1)] [.int 0, .int l2] (zz_S F I J) _ _
                  refine zs_66_113 ?_
                  refine And.intro (rfl) (And.intro (rfl) ?_)
                  have g4 : ¬ (l6 < 0 ∨ 12 ≤ l6.toNatClampNeg) := zz_g hr
                  replace hr := zz_gt hr
                  refine And.intro (g4) (And.intro (rfl) (And.intro (rfl) (And.intro (And.intro rfl rfl) ?_)))
                  exact zz_wk [true, true, true, true, true, true, true, false, false] rfl (ih23 _ _ _ _ _ _ _ _ _ hr)
            · rw [if_neg h4] at hr
              show zz_run _ 66 70 [some (.ref 41), some (.int l1), some (.int l2), some (.int l3), some (.int l4), some (.int l5), some (.int l6), some (.int 0), none] [.int 0] (zz_S F I J) _ _
              refine zs_66_70 ?_
              refine And.intro (rfl) (And.intro (Nat.le_of_ble_eq_true rfl) (And.intro (Nat.le_of_ble_eq_true rfl) (And.intro (Nat.le_of_ble_eq_true rfl) ?_)))
              refine Exists.intro _ (Exists.intro _ (And.intro (zr_X4_stepBy F I J (d+1) l1 l2 l3 0) ?_))
              refine And.intro (fun (h8 : (0 : Int32) = 0) => ?_) (fun (h8 : ¬ ((0 : Int32) = 0)) => ?_)
              · rw [if_pos h8] at hr
                show zz_run _ 66 99 [some (.ref 41), some (.int l1), some (.int l2), some (.int 0), some (.int (l4 + (zv_X4_stepBy I l1 l2 l3 0))), some (.int l5), some (.int l6), some (.int 0), some (.int 0)] [.int l1] (zz_S F I J) _ _
                refine zs_66_99 ?_
                show zz_run _ 66 100 [some (.ref 41), some (.int l1), some (.int l2), some (.int 0), some (.int (l4 + (zv_X4_stepBy I l1 l2 l3 0))), some (.int l5), some (.int l6), some (.int 0), some (.int 0)] [.int 0, .int l1] (zz_S F I J) _ _
                refine zs_66_100 ?_
                refine And.intro (fun (h9 : (0 : Int32) = 0) => ?_) (fun (h9 : ¬ ((0 : Int32) = 0)) => ?_)
                · rw [if_pos h9] at hr
                  show zz_run _ 66 112 [some (.ref 41), some (.int (l1 + 0)), some (.int l2), some (.int 0), some (.int (l4 + (zv_X4_stepBy I l1 l2 l3 0))), some (.int l5), some (.int l6), some (.int 0), some (.int 0)] [.int l2] (zz_S F I J) _ _
                  refine zs_66_112 ?_
                  show zz_run _ 66 113 [some (.ref 41), some (.int (l1 + 0)), some (.int l2), some (.int 0), some (.int (l4 + (zv_X4_stepBy I l1 l2 l3 0))), some (.int l5), some (.int l6), some (.int 0), some (.int 0)] [.int 1, .int l2] (zz_S F I J) _ _
                  refine zs_66_113 ?_
                  refine And.intro (rfl) (And.intro (rfl) ?_)
                  have g5 : ¬ (l6 < 0 ∨ 12 ≤ l6.toNatClampNeg) := zz_g hr
                  replace hr := zz_gt hr
                  refine And.intro (g5) (And.intro (rfl) (And.intro (rfl) (And.intro (And.intro rfl rfl) ?_)))
                  exact zz_wk [true, true, true, true, true, true, true, false, false] rfl (ih23 _ _ _ _ _ _ _ _ _ hr)
                · rw [if_neg h9] at hr
                  show zz_run _ 66 113 [some (.ref 41), some (.int (l1 + 0)), some (.int l2), some (.int 0), some (.int (l4 + (zv_X4_stepBy I l1 l2 l3 0))), some (.int l5), some (.int l6), some (.int 0), some (.int 0)] [.int 0, .int l2] (zz_S F I J) _ _
                  refine zs_66_113 ?_
                  refine And.intro (rfl) (And.intro (rfl) ?_)
                  have g6 : ¬ (l6 < 0 ∨ 12 ≤ l6.toNatClampNeg) := zz_g hr
                  replace hr := zz_gt hr
                  refine And.intro (g6) (And.intro (rfl) (And.intro (rfl) (And.intro (And.intro rfl rfl) ?_)))
                  exact zz_wk [true, true, true, true, true, true, true, false, false] rfl (ih23 _ _ _ _ _ _ _ _ _ hr)
              · rw [if_neg h8] at hr
                show zz_run _ 66 100 [some (.ref 41), some (.int l1), some (.int l2), some (.int 0), some (.int (l4 + (zv_X4_stepBy I l1 l2 l3 0))), some (.int l5), some (.int l6), some (.int 0), some (.int 0)] [.int 1, .int l1] (zz_S F I J) _ _
                refine zs_66_100 ?_
                refine And.intro (fun (h10 : (0 : Int32) = 0) => ?_) (fun (h10 : ¬ ((0 : Int32) = 0)) => ?_)
                · rw [if_pos h10] at hr
                  show zz_run _ 66 112 [some (.ref 41), some (.int (l1 + 1)), some (.int l2), some (.int 0), some (.int (l4 + (zv_X4_stepBy I l1 l2 l3 0))), some (.int l5), some (.int l6), some (.int 0), some (.int 0)] [.int l2] (zz_S F I J) _ _
                  refine zs_66_112 ?_
                  show zz_run _ 66 113 [some (.ref 41), some (.int (l1 + 1)), some (.int l2), some (.int 0), some (.int (l4 + (zv_X4_stepBy I l1 l2 l3 0))), some (.int l5), some (.int l6), some (.int 0), some (.int 0)] [.int 1, .int l2] (zz_S F I J) _ _
                  refine zs_66_113 ?_
                  refine And.intro (rfl) (And.intro (rfl) ?_)
                  have g7 : ¬ (l6 < 0 ∨ 12 ≤ l6.toNatClampNeg) := zz_g hr
                  replace hr := zz_gt hr
                  refine And.intro (g7) (And.intro (rfl) (And.intro (rfl) (And.intro (And.intro rfl rfl) ?_)))
                  exact zz_wk [true, true, true, true, true, true, true, false, false] rfl (ih23 _ _ _ _ _ _ _ _ _ hr)
                · rw [if_neg h10] at hr
                  show zz_run _ 66 113 [some (.ref 41), some (.int (l1 + 1)), some (.int l2), some (.int 0), some (.int (l4 + (zv_X4_stepBy I l1 l2 l3 0))), some (.int l5), some (.int l6), some (.int 0), some (.int 0)] [.int 0, .int l2] (zz_S F I J) _ _
                  refine zs_66_113 ?_
                  refine And.intro (rfl) (And.intro (rfl) ?_)
                  have g8 : ¬ (l6 < 0 ∨ 12 ≤ l6.toNatClampNeg) := zz_g hr
                  replace hr := zz_gt hr
                  refine And.intro (g8) (And.intro (rfl) (And.intro (rfl) (And.intro (And.intro rfl rfl) ?_)))
                  exact zz_wk [true, true, true, true, true, true, true, false, false] rfl (ih23 _ _ _ _ _ _ _ _ _ hr)
          · rw [if_neg h3] at hr
            show zz_run _ 66 58 [some (.ref 41), some (.int l1), some (.int l2), some (.int l3), some (.int l4), some (.int l5), some (.int l6), none, none] [.int 1] (zz_S F I J) _ _
            refine zs_66_58 ?_
            refine And.intro (fun (h11 : (1 : Int32) = 0) => ?_) (fun (h11 : ¬ ((1 : Int32) = 0)) => ?_)
            · rw [if_pos h11] at hr
              show zz_run _ 66 69 [some (.ref 41), some (.int l1), some (.int l2), some (.int l3), some (.int l4), some (.int l5), some (.int l6), some (.int 1), none] [] (zz_S F I J) _ _
              refine zs_66_69 ?_
              show zz_run _ 66 70 [some (.ref 41), some (.int l1), some (.int l2), some (.int l3), some (.int l4), some (.int l5), some (.int l6), some (.int 1), none] [.int 1] (zz_S F I J) _ _
              refine zs_66_70 ?_
              refine And.intro (rfl) (And.intro (Nat.le_of_ble_eq_true rfl) (And.intro (Nat.le_of_ble_eq_true rfl) (And.intro (Nat.le_of_ble_eq_true rfl) ?_)))
              refine Exists.intro _ (Exists.intro _ (And.intro (zr_X4_stepBy F I J (d+1) l1 l2 l3 1) ?_))
              refine And.intro (fun (h12 : (1 : Int32) = 0) => ?_) (fun (h12 : ¬ ((1 : Int32) = 0)) => ?_)
              · rw [if_pos h12] at hr
                show zz_run _ 66 99 [some (.ref 41), some (.int l1), some (.int l2), some (.int 1), some (.int (l4 + (zv_X4_stepBy I l1 l2 l3 1))), some (.int l5), some (.int l6), some (.int 1), some (.int 1)] [.int l1] (zz_S F I J) _ _
                refine zs_66_99 ?_
                show zz_run _ 66 100 [some (.ref 41), some (.int l1), some (.int l2), some (.int 1), some (.int (l4 + (zv_X4_stepBy I l1 l2 l3 1))), some (.int l5), some (.int l6), some (.int 1), some (.int 1)] [.int 0, .int l1] (zz_S F I J) _ _
                refine zs_66_100 ?_
                refine And.intro (fun (h13 : (1 : Int32) = 0) => ?_) (fun (h13 : ¬ ((1 : Int32) = 0)) => ?_)
                · rw [if_pos h13] at hr
                  show zz_run _ 66 112 [some (.ref 41), some (.int (l1 + 0)), some (.int l2), some (.int 1), some (.int (l4 + (zv_X4_stepBy I l1 l2 l3 1))), some (.int l5), some (.int l6), some (.int 1), some (.int 1)] [.int l2] (zz_S F I J) _ _
                  refine zs_66_112 ?_
                  show zz_run _ 66 113 [some (.ref 41), some (.int (l1 + 0)), some (.int l2), some (.int 1), some (.int (l4 + (zv_X4_stepBy I l1 l2 l3 1))), some (.int l5), some (.int l6), some (.int 1), some (.int 1)] [.int 1, .int l2] (zz_S F I J) _ _
                  refine zs_66_113 ?_
                  refine And.intro (rfl) (And.intro (rfl) ?_)
                  have g9 : ¬ (l6 < 0 ∨ 12 ≤ l6.toNatClampNeg) := zz_g hr
                  replace hr := zz_gt hr
                  refine And.intro (g9) (And.intro (rfl) (And.intro (rfl) (And.intro (And.intro rfl rfl) ?_)))
                  exact zz_wk [true, true, true, true, true, true, true, false, false] rfl (ih23 _ _ _ _ _ _ _ _ _ hr)
                · rw [if_neg h13] at hr
                  show zz_run _ 66 113 [some (.ref 41), some (.int (l1 + 0)), some (.int l2), some (.int 1), some (.int (l4 + (zv_X4_stepBy I l1 l2 l3 1))), some (.int l5), some (.int l6), some (.int 1), some (.int 1)] [.int 0, .int l2] (zz_S F I J) _ _
                  refine zs_66_113 ?_
                  refine And.intro (rfl) (And.intro (rfl) ?_)
                  have g10 : ¬ (l6 < 0 ∨ 12 ≤ l6.toNatClampNeg) := zz_g hr
                  replace hr := zz_gt hr
                  refine And.intro (g10) (And.intro (rfl) (And.intro (rfl) (And.intro (And.intro rfl rfl) ?_)))
                  exact zz_wk [true, true, true, true, true, true, true, false, false] rfl (ih23 _ _ _ _ _ _ _ _ _ hr)
              · rw [if_neg h12] at hr
                show zz_run _ 66 100 [some (.ref 41), some (.int l1), some (.int l2), some (.int 1), some (.int (l4 + (zv_X4_stepBy I l1 l2 l3 1))), some (.int l5), some (.int l6), some (.int 1), some (.int 1)] [.int 1, .int l1] (zz_S F I J) _ _
                refine zs_66_100 ?_
                refine And.intro (fun (h14 : (1 : Int32) = 0) => ?_) (fun (h14 : ¬ ((1 : Int32) = 0)) => ?_)
                · rw [if_pos h14] at hr
                  show zz_run _ 66 112 [some (.ref 41), some (.int (l1 + 1)), some (.int l2), some (.int 1), some (.int (l4 + (zv_X4_stepBy I l1 l2 l3 1))), some (.int l5), some (.int l6), some (.int 1), some (.int 1)] [.int l2] (zz_S F I J) _ _
                  refine zs_66_112 ?_
                  show zz_run _ 66 113 [some (.ref 41), some (.int (l1 + 1)), some (.int l2), some (.int 1), some (.int (l4 + (zv_X4_stepBy I l1 l2 l3 1))), some (.int l5), some (.int l6), some (.int 1), some (.int 1)] [.int 1, .int l2] (zz_S F I J) _ _
                  refine zs_66_113 ?_
                  refine And.intro (rfl) (And.intro (rfl) ?_)
                  have g11 : ¬ (l6 < 0 ∨ 12 ≤ l6.toNatClampNeg) := zz_g hr
                  replace hr := zz_gt hr
                  refine And.intro (g11) (And.intro (rfl) (And.intro (rfl) (And.intro (And.intro rfl rfl) ?_)))
                  exact zz_wk [true, true, true, true, true, true, true, false, false] rfl (ih23 _ _ _ _ _ _ _ _ _ hr)
                · rw [if_neg h14] at hr
                  show zz_run _ 66 113 [some (.ref 41), some (.int (l1 + 1)), some (.int l2), some (.int 1), some (.int (l4 + (zv_X4_stepBy I l1 l2 l3 1))), some (.int l5), some (.int l6), some (.int 1), some (.int 1)] [.int 0, .int l2] (zz_S F I J) _ _
                  refine zs_66_113 ?_
                  refine And.intro (rfl) (And.intro (rfl) ?_)
                  have g12 : ¬ (l6 < 0 ∨ 12 ≤ l6.toNatClampNeg) := zz_g hr
                  replace hr := zz_gt hr
                  refine And.intro (g12) (And.intro (rfl) (And.intro (rfl) (And.intro (And.intro rfl rfl) ?_)))
                  exact zz_wk [true, true, true, true, true, true, true, false, false] rfl (ih23 _ _ _ _ _ _ _ _ _ hr)
            · rw [if_neg h11] at hr
              show zz_run _ 66 70 [some (.ref 41), some (.int l1), some (.int l2), some (.int l3), some (.int l4), some (.int l5), some (.int l6), some (.int 1), none] [.int 0] (zz_S F I J) _ _
              refine zs_66_70 ?_
              refine And.intro (rfl) (And.intro (Nat.le_of_ble_eq_true rfl) (And.intro (Nat.le_of_ble_eq_true rfl) (And.intro (Nat.le_of_ble_eq_true rfl) ?_)))
              refine Exists.intro _ (Exists.intro _ (And.intro (zr_X4_stepBy F I J (d+1) l1 l2 l3 0) ?_))
              refine And.intro (fun (h15 : (1 : Int32) = 0) => ?_) (fun (h15 : ¬ ((1 : Int32) = 0)) => ?_)
              · rw [if_pos h15] at hr
                show zz_run _ 66 99 [some (.ref 41), some (.int l1), some (.int l2), some (.int 0), some (.int (l4 + (zv_X4_stepBy I l1 l2 l3 0))), some (.int l5), some (.int l6), some (.int 1), some (.int 0)] [.int l1] (zz_S F I J) _ _
                refine zs_66_99 ?_
                show zz_run _ 66 100 [some (.ref 41), some (.int l1), some (.int l2), some (.int 0), some (.int (l4 + (zv_X4_stepBy I l1 l2 l3 0))), some (.int l5), some (.int l6), some (.int 1), some (.int 0)] [.int 0, .int l1] (zz_S F I J) _ _
                refine zs_66_100 ?_
                refine And.intro (fun (h16 : (1 : Int32) = 0) => ?_) (fun (h16 : ¬ ((1 : Int32) = 0)) => ?_)
                · rw [if_pos h16] at hr
                  show zz_run _ 66 112 [some (.ref 41), some (.int (l1 + 0)), some (.int l2), some (.int 0), some (.int (l4 + (zv_X4_stepBy I l1 l2 l3 0))), some (.int l5), some (.int l6), some (.int 1), some (.int 0)] [.int l2] (zz_S F I J) _ _
                  refine zs_66_112 ?_
                  show zz_run _ 66 113 [some (.ref 41), some (.int (l1 + 0)), some (.int l2), some (.int 0), some (.int (l4 + (zv_X4_stepBy I l1 l2 l3 0))), some (.int l5), some (.int l6), some (.int 1), some (.int 0)] [.int 1, .int l2] (zz_S F I J) _ _
                  refine zs_66_113 ?_
                  refine And.intro (rfl) (And.intro (rfl) ?_)
                  have g13 : ¬ (l6 < 0 ∨ 12 ≤ l6.toNatClampNeg) := zz_g hr
                  replace hr := zz_gt hr
                  refine And.intro (g13) (And.intro (rfl) (And.intro (rfl) (And.intro (And.intro rfl rfl) ?_)))
                  exact zz_wk [true, true, true, true, true, true, true, false, false] rfl (ih23 _ _ _ _ _ _ _ _ _ hr)
                · rw [if_neg h16] at hr
                  show zz_run _ 66 113 [some (.ref 41), some (.int (l1 + 0)), some (.int l2), some (.int 0), some (.int (l4 + (zv_X4_stepBy I l1 l2 l3 0))), some (.int l5), some (.int l6), some (.int 1), some (.int 0)] [.int 0, .int l2] (zz_S F I J) _ _
                  refine zs_66_113 ?_
                  refine And.intro (rfl) (And.intro (rfl) ?_)
                  have g14 : ¬ (l6 < 0 ∨ 12 ≤ l6.toNatClampNeg) := zz_g hr
                  replace hr := zz_gt hr
                  refine And.intro (g14) (And.intro (rfl) (And.intro (rfl) (And.intro (And.intro rfl rfl) ?_)))
                  exact zz_wk [true, true, true, true, true, true, true, false, false] rfl (ih23 _ _ _ _ _ _ _ _ _ hr)
              · rw [if_neg h15] at hr
                show zz_run _ 66 100 [some (.ref 41), some (.int l1), some (.int l2), some (.int 0), some (.int (l4 + (zv_X4_stepBy I l1 l2 l3 0))), some (.int l5), some (.int l6), some (.int 1), some (.int 0)] [.int 1, .int l1] (zz_S F I J) _ _
                refine zs_66_100 ?_
                refine And.intro (fun (h17 : (1 : Int32) = 0) => ?_) (fun (h17 : ¬ ((1 : Int32) = 0)) => ?_)
                · rw [if_pos h17] at hr
                  show zz_run _ 66 112 [some (.ref 41), some (.int (l1 + 1)), some (.int l2), some (.int 0), some (.int (l4 + (zv_X4_stepBy I l1 l2 l3 0))), some (.int l5), some (.int l6), some (.int 1), some (.int 0)] [.int l2] (zz_S F I J) _ _
                  refine zs_66_112 ?_
                  show zz_run _ 66 113 [some (.ref 41), some (.int (l1 + 1)), some (.int l2), some (.int 0), some (.int (l4 + (zv_X4_stepBy I l1 l2 l3 0))), some (.int l5), some (.int l6), some (.int 1), some (.int 0)] [.int 1, .int l2] (zz_S F I J) _ _
                  refine zs_66_113 ?_
                  refine And.intro (rfl) (And.intro (rfl) ?_)
                  have g15 : ¬ (l6 < 0 ∨ 12 ≤ l6.toNatClampNeg) := zz_g hr
                  replace hr := zz_gt hr
                  refine And.intro (g15) (And.intro (rfl) (And.intro (rfl) (And.intro (And.intro rfl rfl) ?_)))
                  exact zz_wk [true, true, true, true, true, true, true, false, false] rfl (ih23 _ _ _ _ _ _ _ _ _ hr)
                · rw [if_neg h17] at hr
                  show zz_run _ 66 113 [some (.ref 41), some (.int (l1 + 1)), some (.int l2), some (.int 0), some (.int (l4 + (zv_X4_stepBy I l1 l2 l3 0))), some (.int l5), some (.int l6), some (.int 1), some (.int 0)] [.int 0, .int l2] (zz_S F I J) _ _
                  refine zs_66_113 ?_
                  refine And.intro (rfl) (And.intro (rfl) ?_)
                  have g16 : ¬ (l6 < 0 ∨ 12 ≤ l6.toNatClampNeg) := zz_g hr
                  replace hr := zz_gt hr
                  refine And.intro (g16) (And.intro (rfl) (And.intro (rfl) (And.intro (And.intro rfl rfl) ?_)))
                  exact zz_wk [true, true, true, true, true, true, true, false, false] rfl (ih23 _ _ _ _ _ _ _ _ _ hr)
    · intro l1 l2 l3 l4 l5 l6 I J r hr
      rw [ze_X4_followLatest_138] at hr
      unfold zb_X4_followLatest_138 at hr
      refine zs_66_138 ?_
      replace hr := Option.some.inj hr
      subst hr
      exact And.intro rfl (And.intro rfl rfl)
theorem zr_X4_followLatest (F : zz_F) (I : Nat → Nat → Int32) (J : Nat → Nat → Int64) (d N : Nat)  (r : Int32 × (Nat → Nat → Int32) × (Nat → Nat → Int64)) (h : zf_X4_followLatest N  I J = some r) : zz_run (d+2) 66 0 [some (.ref 41), none, none, none, none, none, none, none, none] [] (zz_S F I J) none (zz_S F (r.2.1) J) := (zq_X4_followLatest F d N N).1 0 0 0 0 0 0 I J r h
def zb_X4_soonestOf_0 (N : Nat) (rec : Nat → Int32 → Int32 → Int32 → (Nat → Nat → Int32) → (Nat → Nat → Int64) → Option (Int32 × (Nat → Nat → Int32) × (Nat → Nat → Int64))) (l1 : Int32) (l2 : Int32) (l3 : Int32) (I : Nat → Nat → Int32) (J : Nat → Nat → Int64) : Option (Int32 × (Nat → Nat → Int32) × (Nat → Nat → Int64)) := rec 5 l1 1000000 0 I J
def zb_X4_soonestOf_5 (N : Nat) (rec : Nat → Int32 → Int32 → Int32 → (Nat → Nat → Int32) → (Nat → Nat → Int64) → Option (Int32 × (Nat → Nat → Int32) × (Nat → Nat → Int64))) (l1 : Int32) (l2 : Int32) (l3 : Int32) (I : Nat → Nat → Int32) (J : Nat → Nat → Int64) : Option (Int32 × (Nat → Nat → Int32) × (Nat → Nat → Int64)) := if (I 41 6) < l3 then (some (l2, I, J)) else (if (l1 - l3) < 0 then (rec 5 l1 l2 (l3 + 1) I J) else (if (I 41 7) < (l1 - l3) then (rec 5 l1 l2 (l3 + 1) I J) else (rec 5 l1 (zz_min l2 (zz_min (zv_X4_valueAt I l3 (l1 - l3) 0) (zv_X4_valueAt I l3 (l1 - l3) 1))) (l3 + 1) I J)))
def zl_X4_soonestOf (N : Nat) : Nat → Nat → Int32 → Int32 → Int32 → (Nat → Nat → Int32) → (Nat → Nat → Int64) → Option (Int32 × (Nat → Nat → Int32) × (Nat → Nat → Int64))
  | 0 => fun _ _ _ _ _ _ => none
  | n + 1 => fun pc l1 l2 l3 I J => if pc = 0 then zb_X4_soonestOf_0 N (zl_X4_soonestOf N n) l1 l2 l3 I J else (if pc = 5 then zb_X4_soonestOf_5 N (zl_X4_soonestOf N n) l1 l2 l3 I J else none)
theorem ze_X4_soonestOf_0 (N : Nat) (n : Nat) (l1 : Int32) (l2 : Int32) (l3 : Int32) (I : Nat → Nat → Int32) (J : Nat → Nat → Int64) : zl_X4_soonestOf N (n+1) 0 l1 l2 l3 I J = zb_X4_soonestOf_0 N (zl_X4_soonestOf N n) l1 l2 l3 I J := by
  show (if 0 = 0 then zb_X4_soonestOf_0 N (zl_X4_soonestOf N n) l1 l2 l3 I J else (if 0 = 5 then zb_X4_soonestOf_5 N (zl_X4_soonestOf N n) l1 l2 l3 I J else none)) = _
  rw [if_pos rfl]
theorem ze_X4_soonestOf_5 (N : Nat) (n : Nat) (l1 : Int32) (l2 : Int32) (l3 : Int32) (I : Nat → Nat → Int32) (J : Nat → Nat → Int64) : zl_X4_soonestOf N (n+1) 5 l1 l2 l3 I J = zb_X4_soonestOf_5 N (zl_X4_soonestOf N n) l1 l2 l3 I J := by
  show (if 5 = 0 then zb_X4_soonestOf_0 N (zl_X4_soonestOf N n) l1 l2 l3 I J else (if 5 = 5 then zb_X4_soonestOf_5 N (zl_X4_soonestOf N n) l1 l2 l3 I J else none)) = _
  rw [if_neg (by decide), if_pos rfl]
def zf_X4_soonestOf (N : Nat) (l1 : Int32) (I : Nat → Nat → Int32) (J : Nat → Nat → Int64) : Option (Int32 × (Nat → Nat → Int32) × (Nat → Nat → Int64)) := zl_X4_soonestOf N N 0 l1 0 0 I J
theorem zq_X4_soonestOf (F : zz_F) (d N : Nat) : ∀ n : Nat, (∀ (l1 : Int32) (l2 : Int32) (l3 : Int32) (I : Nat → Nat → Int32) (J : Nat → Nat → Int64) (r : Int32 × (Nat → Nat → Int32) × (Nat → Nat → Int64)), zl_X4_soonestOf N n 0 l1 l2 l3 I J = some r → zz_run (d+1) 72 0 [some (.ref 41), some (.int l1), none, none, none] [] (zz_S F I J) (some (.int r.1)) (zz_S F I J)) ∧ (∀ (l1 : Int32) (l2 : Int32) (l3 : Int32) (I : Nat → Nat → Int32) (J : Nat → Nat → Int64) (r : Int32 × (Nat → Nat → Int32) × (Nat → Nat → Int64)), zl_X4_soonestOf N n 5 l1 l2 l3 I J = some r → zz_run (d+1) 72 5 [some (.ref 41), some (.int l1), some (.int l2), some (.int l3), none] [] (zz_S F I J) (some (.int r.1)) (zz_S F I J)) := by
  intro n
  induction n with
  | zero => exact ⟨fun _ _ _ _ _ _ h => zz_no h, fun _ _ _ _ _ _ h => zz_no h⟩
  | succ n ih =>
    obtain ⟨ih0, ih5⟩ := ih
    refine ⟨?_, ?_⟩
    · intro l1 l2 l3 I J r hr
      rw [ze_X4_soonestOf_0] at hr
      unfold zb_X4_soonestOf_0 at hr
      refine zs_72_0 ?_
      exact zz_wk [true, true, true, true, false] rfl (ih5 _ _ _ _ _ _ hr)
    · intro l1 l2 l3 I J r hr
      rw [ze_X4_soonestOf_5] at hr
      unfold zb_X4_soonestOf_5 at hr
      refine zs_72_5 ?_
      refine And.intro (rfl) (And.intro (fun (h1 : (I 41 6) < l3) => ?_) (fun (h1 : ¬ ((I 41 6) < l3)) => ?_))
      · rw [if_pos h1] at hr
        show zz_run _ 72 62 [some (.ref 41), some (.int l1), some (.int l2), some (.int l3), none] [] (zz_S F I J) _ _
        refine zs_72_62 ?_
        replace hr := Option.some.inj hr
        subst hr
        exact And.intro rfl (And.intro rfl rfl)
      · rw [if_neg h1] at hr
        refine And.intro (fun (h2 : (l1 - l3) < 0) => ?_) (fun (h2 : ¬ ((l1 - l3) < 0)) => ?_)
        · rw [if_pos h2] at hr
          show zz_run _ 72 56 [some (.ref 41), some (.int l1), some (.int l2), some (.int l3), some (.int (l1 - l3))] [] (zz_S F I J) _ _
          refine zs_72_56 ?_
          exact zz_wk [true, true, true, true, false] rfl (ih5 _ _ _ _ _ _ hr)
        · rw [if_neg h2] at hr
          refine And.intro (rfl) (And.intro (fun (h3 : (I 41 7) < (l1 - l3)) => ?_) (fun (h3 : ¬ ((I 41 7) < (l1 - l3))) => ?_))
          · rw [if_pos h3] at hr
            show zz_run _ 72 56 [some (.ref 41), some (.int l1), some (.int l2), some (.int l3), some (.int (l1 - l3))] [] (zz_S F I J) _ _
            refine zs_72_56 ?_
            exact zz_wk [true, true, true, true, false] rfl (ih5 _ _ _ _ _ _ hr)
          · rw [if_neg h3] at hr
            refine And.intro (rfl) (And.intro (Nat.le_of_ble_eq_true rfl) (And.intro (Nat.le_of_ble_eq_true rfl) (And.intro (Nat.le_of_ble_eq_true rfl) ?_)))
            refine Exists.intro _ (Exists.intro _ (And.intro (zr_X4_valueAt F I J d l3 (l1 - l3) 0) ?_))
            refine And.intro (rfl) (And.intro (Nat.le_of_ble_eq_true rfl) (And.intro (Nat.le_of_ble_eq_true rfl) (And.intro (Nat.le_of_ble_eq_true rfl) ?_)))
            refine Exists.intro _ (Exists.intro _ (And.intro (zr_X4_valueAt F I J d l3 (l1 - l3) 1) ?_))
            refine And.intro (Nat.le_of_ble_eq_true rfl) (And.intro (Nat.le_of_ble_eq_true rfl) (And.intro (Nat.le_of_ble_eq_true rfl) ?_))
            refine Exists.intro _ (Exists.intro _ (And.intro (zr_min F I J d (zv_X4_valueAt I l3 (l1 - l3) 0) (zv_X4_valueAt I l3 (l1 - l3) 1)) ?_))
            refine And.intro (Nat.le_of_ble_eq_true rfl) (And.intro (Nat.le_of_ble_eq_true rfl) (And.intro (Nat.le_of_ble_eq_true rfl) ?_))
            refine Exists.intro _ (Exists.intro _ (And.intro (zr_min F I J d l2 (zz_min (zv_X4_valueAt I l3 (l1 - l3) 0) (zv_X4_valueAt I l3 (l1 - l3) 1))) ?_))
            show zz_run _ 72 56 [some (.ref 41), some (.int l1), some (.int (zz_min l2 (zz_min (zv_X4_valueAt I l3 (l1 - l3) 0) (zv_X4_valueAt I l3 (l1 - l3) 1)))), some (.int l3), some (.int (l1 - l3))] [] (zz_S F I J) _ _
            refine zs_72_56 ?_
            exact zz_wk [true, true, true, true, false] rfl (ih5 _ _ _ _ _ _ hr)
theorem zr_X4_soonestOf (F : zz_F) (I : Nat → Nat → Int32) (J : Nat → Nat → Int64) (d N : Nat) (l1 : Int32) (r : Int32 × (Nat → Nat → Int32) × (Nat → Nat → Int64)) (h : zf_X4_soonestOf N l1 I J = some r) : zz_run (d+1) 72 0 [some (.ref 41), some (.int l1), none, none, none] [] (zz_S F I J) (some (.int r.1)) (zz_S F I J) := (zq_X4_soonestOf F d N N).1 l1 0 0 I J r h
def zb_X4_findCut_0 (N : Nat) (rec : Nat → Int32 → Int32 → (Nat → Nat → Int32) → (Nat → Nat → Int64) → Option (Int32 × (Nat → Nat → Int32) × (Nat → Nat → Int64))) (l1 : Int32) (l2 : Int32) (I : Nat → Nat → Int32) (J : Nat → Nat → Int64) : Option (Int32 × (Nat → Nat → Int32) × (Nat → Nat → Int64)) := (zf_X9_sumOf N l1 6 (zz_u (zz_u (zz_u I 41 14 l2) 41 10 l1) 41 11 0) J).bind fun r1 => (zf_X4_leastChangeAmong N l1 (zz_u (zz_u (zz_u (zz_u (zz_u I 41 14 l2) 41 10 l1) 41 11 0) 41 12 r1.1) 41 13 (zv_J6_bitCount l1)) J).bind fun r2 => (zf_X4_tryCuts_ N l1 11 0 0 (-r2.1) (zz_u (zz_u (zz_u (zz_u (zz_u (zz_u I 41 14 l2) 41 10 l1) 41 11 0) 41 12 r1.1) 41 13 (zv_J6_bitCount l1)) 41 15 r2.1) J).bind fun r3 => some (r3.2.1 41 12, r3.2.1, r3.2.2)
def zl_X4_findCut (N : Nat) : Nat → Nat → Int32 → Int32 → (Nat → Nat → Int32) → (Nat → Nat → Int64) → Option (Int32 × (Nat → Nat → Int32) × (Nat → Nat → Int64))
  | 0 => fun _ _ _ _ _ => none
  | n + 1 => fun pc l1 l2 I J => if pc = 0 then zb_X4_findCut_0 N (zl_X4_findCut N n) l1 l2 I J else none
theorem ze_X4_findCut_0 (N : Nat) (n : Nat) (l1 : Int32) (l2 : Int32) (I : Nat → Nat → Int32) (J : Nat → Nat → Int64) : zl_X4_findCut N (n+1) 0 l1 l2 I J = zb_X4_findCut_0 N (zl_X4_findCut N n) l1 l2 I J := by
  show (if 0 = 0 then zb_X4_findCut_0 N (zl_X4_findCut N n) l1 l2 I J else none) = _
  rw [if_pos rfl]
def zf_X4_findCut (N : Nat) (l1 : Int32) (l2 : Int32) (I : Nat → Nat → Int32) (J : Nat → Nat → Int64) : Option (Int32 × (Nat → Nat → Int32) × (Nat → Nat → Int64)) := zl_X4_findCut N N 0 l1 l2 I J
theorem zq_X4_findCut (F : zz_F) (d N : Nat) : ∀ n : Nat, (∀ (l1 : Int32) (l2 : Int32) (I : Nat → Nat → Int32) (J : Nat → Nat → Int64) (r : Int32 × (Nat → Nat → Int32) × (Nat → Nat → Int64)), zl_X4_findCut N n 0 l1 l2 I J = some r → zz_run (d+21) 73 0 [some (.ref 41), some (.int l1), some (.int l2)] [] (zz_S F I J) (some (.int r.1)) (zz_S F (r.2.1) (r.2.2))) := by
  intro n
  induction n with
  | zero => exact fun _ _ _ _ _ h => zz_no h
  | succ n ih =>
    have ih0 := ih
    skip
    · intro l1 l2 I J r hr
      rw [ze_X4_findCut_0] at hr
      unfold zb_X4_findCut_0 at hr
      refine zs_73_0 ?_
      refine And.intro (rfl) (And.intro (rfl) (And.intro (And.intro rfl rfl) (And.intro (rfl) (And.intro (rfl) (And.intro (And.intro rfl rfl) ?_)))))
      refine And.intro (rfl) (And.intro (rfl) (And.intro (And.intro rfl rfl) (And.intro (rfl) (And.intro (rfl) (And.intro (Nat.le_of_ble_eq_true rfl) ?_)))))
      refine And.intro (Nat.le_of_ble_eq_true rfl) (And.intro (Nat.le_of_ble_eq_true rfl) ?_)
      obtain ⟨r1, cr1, hr⟩ := Option.bind_eq_some_iff.mp hr
      refine Exists.intro _ (Exists.intro _ (And.intro (zr_X9_sumOf F (zz_u (zz_u (zz_u I 41 14 l2) 41 10 l1) 41 11 0) J (d+19) N l1 6 r1 cr1) ?_))
      refine And.intro (rfl) (And.intro (rfl) (And.intro (And.intro rfl rfl) (And.intro (Nat.le_of_ble_eq_true rfl) (And.intro (Nat.le_of_ble_eq_true rfl) (And.intro (Nat.le_of_ble_eq_true rfl) ?_)))))
      refine Exists.intro _ (Exists.intro _ (And.intro (zr_J6_bitCount F (zz_u (zz_u (zz_u (zz_u I 41 14 l2) 41 10 l1) 41 11 0) 41 12 r1.1) J (d+20) l1) ?_))
      refine And.intro (rfl) (And.intro (rfl) (And.intro (And.intro rfl rfl) (And.intro (rfl) (And.intro (Nat.le_of_ble_eq_true rfl) (And.intro (Nat.le_of_ble_eq_true rfl) ?_)))))
      refine And.intro (Nat.le_of_ble_eq_true rfl) ?_
      obtain ⟨r2, cr2, hr⟩ := Option.bind_eq_some_iff.mp hr
      refine Exists.intro _ (Exists.intro _ (And.intro (zr_X4_leastChangeAmong F (zz_u (zz_u (zz_u (zz_u (zz_u I 41 14 l2) 41 10 l1) 41 11 0) 41 12 r1.1) 41 13 (zv_J6_bitCount l1)) J (d+19) N l1 r2 cr2) ?_))
      refine And.intro (rfl) (And.intro (rfl) (And.intro (And.intro rfl rfl) (And.intro (rfl) (And.intro (rfl) (And.intro (Nat.le_of_ble_eq_true rfl) ?_)))))
      refine And.intro (Nat.le_of_ble_eq_true rfl) (And.intro (Nat.le_of_ble_eq_true rfl) ?_)
      obtain ⟨r3, cr3, hr⟩ := Option.bind_eq_some_iff.mp hr
      refine Exists.intro _ (Exists.intro _ (And.intro (zr_X4_tryCuts_ F (zz_u (zz_u (zz_u (zz_u (zz_u (zz_u I 41 14 l2) 41 10 l1) 41 11 0) 41 12 r1.1) 41 13 (zv_J6_bitCount l1)) 41 15 r2.1) J d N l1 11 0 0 (-r2.1) r3 cr3) ?_))
      refine And.intro (rfl) ?_
      replace hr := Option.some.inj hr
      subst hr
      exact And.intro rfl (And.intro rfl rfl)
theorem zr_X4_findCut (F : zz_F) (I : Nat → Nat → Int32) (J : Nat → Nat → Int64) (d N : Nat) (l1 : Int32) (l2 : Int32) (r : Int32 × (Nat → Nat → Int32) × (Nat → Nat → Int64)) (h : zf_X4_findCut N l1 l2 I J = some r) : zz_run (d+21) 73 0 [some (.ref 41), some (.int l1), some (.int l2)] [] (zz_S F I J) (some (.int r.1)) (zz_S F (r.2.1) (r.2.2)) := (zq_X4_findCut F d N N) l1 l2 I J r h
