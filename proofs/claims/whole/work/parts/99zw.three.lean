/-! SCENE, PLAY, ROW: where the class answers, and where it throws -/
def zc_scene (I : Nat → Nat → Int32) (x y : Int32) : Int32 := if ¬ y = 7 then zz_f I x y else zv_X5_stateOf I x
theorem zr_X11_scene (F : zz_F) (I : Nat → Nat → Int32) (J : Nat → Nat → Int64) (d : Nat) (x y : Int32) (h1 : ¬ zv_X9_has I x = 0) (h2 : ¬ y < 0) (h3 : y ≤ 7) : zz_run (d+1) 138 0 [some (.ref 2), some (.int x), some (.int y)] [] (zz_S F I J) (some (.int (zc_scene I x y))) (zz_S F I J) := by
  unfold zc_scene
  refine zs_138_0 ?_
  repeat' first | refine And.intro rfl ?_ | refine And.intro (Or.inl rfl) ?_ | refine And.intro (Or.inr rfl) ?_ | refine And.intro (Nat.le_of_ble_eq_true rfl) ?_ | refine And.intro (And.intro rfl rfl) ?_ | exact rfl
  refine Exists.intro _ (Exists.intro _ (And.intro (zr_X9_has F I J d x) ?_))
  repeat' first | refine And.intro rfl ?_ | refine And.intro (Or.inl rfl) ?_ | refine And.intro (Or.inr rfl) ?_ | refine And.intro (Nat.le_of_ble_eq_true rfl) ?_ | refine And.intro (And.intro rfl rfl) ?_ | exact rfl
  refine And.intro (fun c => absurd c h1) (fun _ => ?_)
  repeat' first | refine And.intro rfl ?_ | refine And.intro (Or.inl rfl) ?_ | refine And.intro (Or.inr rfl) ?_ | refine And.intro (Nat.le_of_ble_eq_true rfl) ?_ | refine And.intro (And.intro rfl rfl) ?_ | exact rfl
  refine And.intro (fun c => absurd c h2) (fun _ => ?_)
  repeat' first | refine And.intro rfl ?_ | refine And.intro (Or.inl rfl) ?_ | refine And.intro (Or.inr rfl) ?_ | refine And.intro (Nat.le_of_ble_eq_true rfl) ?_ | refine And.intro (And.intro rfl rfl) ?_ | exact rfl
  refine And.intro (fun _ => ?_) (fun c => absurd h3 c)
  refine zs_138_29 ?_
  repeat' first | refine And.intro rfl ?_ | refine And.intro (Or.inl rfl) ?_ | refine And.intro (Or.inr rfl) ?_ | refine And.intro (Nat.le_of_ble_eq_true rfl) ?_ | refine And.intro (And.intro rfl rfl) ?_ | exact rfl
  refine And.intro (fun (c : ¬ y = 7) => ?_) (fun (c : ¬ ¬ y = 7) => ?_)
  · rw [if_pos c]
    refine zs_138_44 ?_
    repeat' first | refine And.intro rfl ?_ | refine And.intro (Or.inl rfl) ?_ | refine And.intro (Or.inr rfl) ?_ | refine And.intro (Nat.le_of_ble_eq_true rfl) ?_ | refine And.intro (And.intro rfl rfl) ?_ | exact rfl
    refine Exists.intro _ (Exists.intro _ (And.intro (zr_of F I J d x y) ?_))
    repeat' first | refine And.intro rfl ?_ | refine And.intro (Or.inl rfl) ?_ | refine And.intro (Or.inr rfl) ?_ | refine And.intro (Nat.le_of_ble_eq_true rfl) ?_ | refine And.intro (And.intro rfl rfl) ?_ | exact rfl
  · rw [if_neg c]
    repeat' first | refine And.intro rfl ?_ | refine And.intro (Or.inl rfl) ?_ | refine And.intro (Or.inr rfl) ?_ | refine And.intro (Nat.le_of_ble_eq_true rfl) ?_ | refine And.intro (And.intro rfl rfl) ?_ | exact rfl
    refine Exists.intro _ (Exists.intro _ (And.intro (zr_X5_stateOf F I J d x) ?_))
    repeat' first | refine And.intro rfl ?_ | refine And.intro (Or.inl rfl) ?_ | refine And.intro (Or.inr rfl) ?_ | refine And.intro (Nat.le_of_ble_eq_true rfl) ?_ | refine And.intro (And.intro rfl rfl) ?_ | exact rfl
def zc_row (J : Nat → Nat → Int64) (x : Int32) : Int64 := J 4 x.toNatClampNeg
theorem zr_X11_row (F : zz_F) (I : Nat → Nat → Int32) (J : Nat → Nat → Int64) (d : Nat) (x : Int32) (h1 : ¬ x < 0) (h2 : ¬ I 2 3 ≤ x) (h3 : x < nI 12) : zz_run d 177 0 [some (.ref 2), some (.int x)] [] (zz_S F I J) (some (.long (zc_row J x))) (zz_S F I J) := by
  unfold zc_row
  refine zs_177_0 ?_
  repeat' first | refine And.intro rfl ?_ | refine And.intro (Or.inl rfl) ?_ | refine And.intro (Or.inr rfl) ?_ | refine And.intro (Nat.le_of_ble_eq_true rfl) ?_ | refine And.intro (And.intro rfl rfl) ?_ | exact rfl
  refine And.intro (fun c => absurd c h1) (fun _ => ?_)
  repeat' first | refine And.intro rfl ?_ | refine And.intro (Or.inl rfl) ?_ | refine And.intro (Or.inr rfl) ?_ | refine And.intro (Nat.le_of_ble_eq_true rfl) ?_ | refine And.intro (And.intro rfl rfl) ?_ | exact rfl
  refine And.intro (fun c => absurd c h2) (fun _ => ?_)
  repeat' first | refine And.intro rfl ?_ | refine And.intro (Or.inl rfl) ?_ | refine And.intro (Or.inr rfl) ?_ | refine And.intro (Nat.le_of_ble_eq_true rfl) ?_ | refine And.intro (And.intro rfl rfl) ?_ | exact rfl
  refine And.intro (fun _ => ?_) (fun c => absurd h3 c)
  refine zs_177_29 ?_
  repeat' first | refine And.intro rfl ?_ | refine And.intro (Or.inl rfl) ?_ | refine And.intro (Or.inr rfl) ?_ | refine And.intro (Nat.le_of_ble_eq_true rfl) ?_ | refine And.intro (And.intro rfl rfl) ?_ | exact rfl
  refine And.intro (zz_vin (n := 12) h1 (fun c => Int32.not_lt.mpr c h3) (by decide)) ?_
  repeat' first | refine And.intro rfl ?_ | refine And.intro (Or.inl rfl) ?_ | refine And.intro (Or.inr rfl) ?_ | refine And.intro (Nat.le_of_ble_eq_true rfl) ?_ | refine And.intro (And.intro rfl rfl) ?_ | exact rfl
def zc_play (n : Nat) (I : Nat → Nat → Int32) (p w : Nat) : Int32 := match w with
  | 0 => I 8 2 &&& zv_X9_scenesOf I (nI p)
  | 1 => I 8 3 &&& zv_X9_scenesOf I (nI p)
  | 2 => I 8 4 &&& zv_X9_scenesOf I (nI p)
  | 3 => zz_kn I (nI p)
  | 4 => zv_X5_cheersIn I (nI p)
  | 5 => zh_nx n (I 53) (I 54) p
  | _ => zh_M n (I 54) (I 8 2 &&& zv_X9_scenesOf I (nI p)) 1
theorem zr_X11_play (F : zz_F) (I : Nat → Nat → Int32) (J : Nat → Nat → Int64) (d N n p : Nat) (w : Nat) (hw : w < 7) (h1 : ¬ zv_X11_isPlay (nI p) = 0) (hn : zf_X11_nextOf N (nI p) I J = some (zh_nx n (I 53) (I 54) p, I, J)) (hs : zf_X9_sumOf N (I 8 2 &&& zv_X9_scenesOf I (nI p)) 1 I J = some (zh_M n (I 54) (I 8 2 &&& zv_X9_scenesOf I (nI p)) 1, I, J)) : zz_run (d+2) 139 0 [some (.ref 2), some (.int (nI p)), some (.int (nI w)), none] [] (zz_S F I J) (some (.int (zc_play n I p w))) (zz_S F I J) := by
  refine zs_139_0 ?_
  repeat' first | refine And.intro rfl ?_ | refine And.intro (Or.inl rfl) ?_ | refine And.intro (Or.inr rfl) ?_ | refine And.intro (Nat.le_of_ble_eq_true rfl) ?_ | refine And.intro (And.intro rfl rfl) ?_ | exact rfl
  refine Exists.intro _ (Exists.intro _ (And.intro (zr_X11_isPlay F I J (d+1) (nI p)) ?_))
  repeat' first | refine And.intro rfl ?_ | refine And.intro (Or.inl rfl) ?_ | refine And.intro (Or.inr rfl) ?_ | refine And.intro (Nat.le_of_ble_eq_true rfl) ?_ | refine And.intro (And.intro rfl rfl) ?_ | exact rfl
  refine And.intro (fun _ => ?_) (fun c => absurd h1 c)
  refine zs_139_15 ?_
  repeat' first | refine And.intro rfl ?_ | refine And.intro (Or.inl rfl) ?_ | refine And.intro (Or.inr rfl) ?_ | refine And.intro (Nat.le_of_ble_eq_true rfl) ?_ | refine And.intro (And.intro rfl rfl) ?_ | exact rfl
  refine Exists.intro _ (Exists.intro _ (And.intro (zr_X9_scenesOf F I J (d+1) (nI p)) ?_))
  repeat' first | refine And.intro rfl ?_ | refine And.intro (Or.inl rfl) ?_ | refine And.intro (Or.inr rfl) ?_ | refine And.intro (Nat.le_of_ble_eq_true rfl) ?_ | refine And.intro (And.intro rfl rfl) ?_ | exact rfl
  match w, hw with
  | 0, _ =>
    refine And.intro (fun c => absurd c (by decide)) (fun _ => ⟨_, rfl, ?_⟩)
    refine zs_139_68 ?_
    repeat' first | refine And.intro rfl ?_ | refine And.intro (Or.inl rfl) ?_ | refine And.intro (Or.inr rfl) ?_ | refine And.intro (Nat.le_of_ble_eq_true rfl) ?_ | refine And.intro (And.intro rfl rfl) ?_ | exact rfl
  | 1, _ =>
    refine And.intro (fun c => absurd c (by decide)) (fun _ => ⟨_, rfl, ?_⟩)
    refine zs_139_78 ?_
    repeat' first | refine And.intro rfl ?_ | refine And.intro (Or.inl rfl) ?_ | refine And.intro (Or.inr rfl) ?_ | refine And.intro (Nat.le_of_ble_eq_true rfl) ?_ | refine And.intro (And.intro rfl rfl) ?_ | exact rfl
  | 2, _ =>
    refine And.intro (fun c => absurd c (by decide)) (fun _ => ⟨_, rfl, ?_⟩)
    refine zs_139_88 ?_
    repeat' first | refine And.intro rfl ?_ | refine And.intro (Or.inl rfl) ?_ | refine And.intro (Or.inr rfl) ?_ | refine And.intro (Nat.le_of_ble_eq_true rfl) ?_ | refine And.intro (And.intro rfl rfl) ?_ | exact rfl
  | 3, _ =>
    refine And.intro (fun c => absurd c (by decide)) (fun _ => ⟨_, rfl, ?_⟩)
    refine zs_139_98 ?_
    repeat' first | refine And.intro rfl ?_ | refine And.intro (Or.inl rfl) ?_ | refine And.intro (Or.inr rfl) ?_ | refine And.intro (Nat.le_of_ble_eq_true rfl) ?_ | refine And.intro (And.intro rfl rfl) ?_ | exact rfl
    refine Exists.intro _ (Exists.intro _ (And.intro (zr_knownIn F I J (d+1) (nI p)) ?_))
    repeat' first | refine And.intro rfl ?_ | refine And.intro (Or.inl rfl) ?_ | refine And.intro (Or.inr rfl) ?_ | refine And.intro (Nat.le_of_ble_eq_true rfl) ?_ | refine And.intro (And.intro rfl rfl) ?_ | exact rfl
  | 4, _ =>
    refine And.intro (fun c => absurd c (by decide)) (fun _ => ⟨_, rfl, ?_⟩)
    refine zs_139_107 ?_
    repeat' first | refine And.intro rfl ?_ | refine And.intro (Or.inl rfl) ?_ | refine And.intro (Or.inr rfl) ?_ | refine And.intro (Nat.le_of_ble_eq_true rfl) ?_ | refine And.intro (And.intro rfl rfl) ?_ | exact rfl
    refine Exists.intro _ (Exists.intro _ (And.intro (zr_X5_cheersIn F I J (d+1) (nI p)) ?_))
    repeat' first | refine And.intro rfl ?_ | refine And.intro (Or.inl rfl) ?_ | refine And.intro (Or.inr rfl) ?_ | refine And.intro (Nat.le_of_ble_eq_true rfl) ?_ | refine And.intro (And.intro rfl rfl) ?_ | exact rfl
  | 5, _ =>
    refine And.intro (fun c => absurd c (by decide)) (fun _ => ⟨_, rfl, ?_⟩)
    refine zs_139_116 ?_
    repeat' first | refine And.intro rfl ?_ | refine And.intro (Or.inl rfl) ?_ | refine And.intro (Or.inr rfl) ?_ | refine And.intro (Nat.le_of_ble_eq_true rfl) ?_ | refine And.intro (And.intro rfl rfl) ?_ | exact rfl
    refine Exists.intro _ (Exists.intro _ (And.intro (zr_X11_nextOf F I J d N (nI p) _ hn) ?_))
    repeat' first | refine And.intro rfl ?_ | refine And.intro (Or.inl rfl) ?_ | refine And.intro (Or.inr rfl) ?_ | refine And.intro (Nat.le_of_ble_eq_true rfl) ?_ | refine And.intro (And.intro rfl rfl) ?_ | exact rfl
  | 6, _ =>
    refine And.intro (fun c => absurd c (by decide)) (fun _ => ⟨_, rfl, ?_⟩)
    refine zs_139_122 ?_
    repeat' first | refine And.intro rfl ?_ | refine And.intro (Or.inl rfl) ?_ | refine And.intro (Or.inr rfl) ?_ | refine And.intro (Nat.le_of_ble_eq_true rfl) ?_ | refine And.intro (And.intro rfl rfl) ?_ | exact rfl
    refine Exists.intro _ (Exists.intro _ (And.intro (zr_X9_sumOf F I J d N _ _ _ hs) ?_))
    repeat' first | refine And.intro rfl ?_ | refine And.intro (Or.inl rfl) ?_ | refine And.intro (Or.inr rfl) ?_ | refine And.intro (Nat.le_of_ble_eq_true rfl) ?_ | refine And.intro (And.intro rfl rfl) ?_ | exact rfl
  | w + 7, h => exact absurd h (by omega)
def zT_scene (I : Nat → Nat → Int32) (x y : Int32) : Prop := zv_X9_has I x = 0 ∨ y < 0 ∨ ¬ y ≤ 7
def zT_play (x y : Int32) : Prop := zv_X11_isPlay x = 0 ∨ y < 0 ∨ nI 6 < y
def zT_row (I : Nat → Nat → Int32) (x : Int32) : Prop := x < 0 ∨ I 2 3 ≤ x
theorem zy_scene {n : Nat} {I : Nat → Nat → Int32} {J : Nat → Nat → Int64} {F : zz_F} (h : zi n I J F) (x y : Int32) : ((zT_scene I x y ∧ zw_X12_scene I x y 52 7 = 1) ∨ (¬ zT_scene I x y ∧ zw_X12_scene I x y 52 7 = 0 ∧ zv_X12_scene I x y = zc_scene I x y)) ∧ ((¬ ((zv_X12_isScene (zz_u I 52 7 0) x) = 0)) → (¬ (zv_X12_in y 0 7) = 0) → (7 ≤ y) → (vp_in x 18)) ∧ ((¬ ((zv_X12_isScene (zz_u I 52 7 0) x) = 0)) → (¬ (zv_X12_in y 0 7) = 0) → (¬ (7 ≤ y)) → (vp_in ((7 * x) + y) 84)) ∧ zi n (zw_X12_scene I x y) J F := by
  have hn := h.1.1
  have hl : zi n (zw_X12_lost (zz_u I 52 7 0)) J F := zi_told h (zk_u rfl (zk_u rfl (zk_refl I))) (zc_tol h.2.2.2.1 rfl rfl rfl rfl) h.2.2.2.2.2.2.2.2
  unfold zw_X12_scene zv_X12_scene
  rcases zu_scn h.1 x with ⟨q1, q2⟩ | ⟨s, hs, rfl, q1, q2⟩
  · have e := q2 (zz_u I 52 7 0) rfl
    rw [if_pos e]
    exact ⟨.inl ⟨.inl q1, zz_us _ _ _ _⟩, fun c => absurd e c, fun c => absurd e c, hl⟩
  · have e : ¬ zv_X12_isScene (zz_u I 52 7 0) (nI s) = 0 := by rw [q2 (zz_u I 52 7 0) rfl]; decide
    have ha : ¬ zv_X9_has I (nI s) = 0 := by rw [q1]; decide
    rw [if_neg e, if_neg e]
    rcases zu_bet y 7 (by omega) with b | ⟨w, hw, rfl⟩
    · have i0 : zv_X12_in y 0 7 = 0 := zu_inN 7 b
      rw [if_neg (fun c => c i0)]
      exact ⟨.inl ⟨.inr (b.imp id (fun z c => Int32.not_lt.mpr c z)), zz_us _ _ _ _⟩, fun _ c => absurd i0 c, fun _ c => absurd i0 c, hl⟩
    · have i1 : ¬ zv_X12_in (nI w) 0 7 = 0 := by
        show ¬ zv_X12_in (nI w) 0 (nI 7) = 0
        rw [zu_inY (by omega) hw]; decide
      rw [if_pos i1, if_pos i1]
      refine ⟨.inr ⟨fun c => ?_, zz_us _ _ _ _, ?_⟩, fun _ _ _ => vp_in_nI (by omega) (by omega), fun _ _ c => ?_, zi_q0 h⟩
      · rcases c with c | c | c
        · exact ha c
        · exact nI_pos (by omega) c
        · exact c (show nI w ≤ nI 7 from nI_le hw (by omega))
      · unfold zc_scene
        by_cases w7 : w = 7
        · subst w7
          rw [if_pos (show (7 : Int32) ≤ nI 7 from nI_le (Nat.le_refl 7) (by omega)), if_neg (fun c => c rfl), nI_clamp (by omega)]
          obtain ⟨-, -, -, r3, r4, -, -, -, -, ra, -⟩ := h.2.1
          unfold zv_X5_stateOf
          rw [r3, r4]
          have b1 : (zu_set (fun s => decide (I 53 s = 1)) n &&& ((1 : Int32) <<< (nI s &&& 31)) = 0) = (decide (I 53 s = 1) = false) := by rw [zu_bz (by omega), zu_set_at (by omega) hs]
          have b2 : (zu_set (fun s => decide (I 53 s = 2)) n &&& ((1 : Int32) <<< (nI s &&& 31)) = 0) = (decide (I 53 s = 2) = false) := by rw [zu_bz (by omega), zu_set_at (by omega) hs]
          simp only [b1, b2]
          rcases ra s hs with q | q | q <;> rw [q] <;> decide
        · have g7 : ¬ (7 : Int32) ≤ nI w := nI_ge (a := w) (b := 7) (show w < 7 by omega) (by omega)
          rw [if_neg g7, if_pos (show ¬ nI w = 7 from fun c => w7 ((nI_eq (by omega) (by omega)).mp (show nI w = nI 7 from c))), zu_fw (by omega) (by omega), zu_cfw (by omega) (by omega), zu_ux (by omega), h.1.2.2.2.1 _ (by omega)]
      · have w7 : w < 7 := Nat.lt_of_not_le (fun z => c (show nI 7 ≤ nI w from nI_le z (by omega)))
        show vp_in (nI 7 * nI s + nI w) 84
        rw [pk_mul, nI_add]
        exact vp_in_nI (by omega) (by omega)
theorem zy_row {n : Nat} {I : Nat → Nat → Int32} {J : Nat → Nat → Int64} {F : zz_F} (h : zi n I J F) (x : Int32) : ((zT_row I x ∧ zw_X12_row I J x 52 7 = 1) ∨ (¬ zT_row I x ∧ x < nI 12 ∧ zw_X12_row I J x 52 7 = 0 ∧ zv_X12_row I J x = zc_row J x)) ∧ ((¬ ((zv_X12_in x 0 ((I 52 6) - 1)) = 0)) → (vp_in x 20)) ∧ zi n (zw_X12_row I J x) J F := by
  have hl : zi n (zw_X12_lost (zz_u I 52 7 0)) J F := zi_told h (zk_u rfl (zk_u rfl (zk_refl I))) (zc_tol h.2.2.2.1 rfl rfl rfl rfl) h.2.2.2.2.2.2.2.2
  obtain ⟨k, hk, k1, k2, k3⟩ := h.2.2.2.1
  unfold zw_X12_row zv_X12_row zT_row
  rw [k1, k2]
  have no : zv_X12_in x 0 (nI k - 1) = 0 → (x < 0 ∨ nI k ≤ x) → ((x < 0 ∨ nI k ≤ x) ∧ (if zv_X12_in x 0 (nI k - 1) = 0 then zw_X12_lost (zz_u I 52 7 0) else zz_u I 52 7 0) 52 7 = 1 ∨ ¬ (x < 0 ∨ nI k ≤ x) ∧ x < nI 12 ∧ (if zv_X12_in x 0 (nI k - 1) = 0 then zw_X12_lost (zz_u I 52 7 0) else zz_u I 52 7 0) 52 7 = 0 ∧ (if zv_X12_in x 0 (nI k - 1) = 0 then (zv_X12_lost (zz_u I 52 7 0)).toInt64 else J 56 x.toNatClampNeg) = zc_row J x) ∧ (¬ zv_X12_in x 0 (nI k - 1) = 0 → vp_in x 20) ∧ zi n (if zv_X12_in x 0 (nI k - 1) = 0 then zw_X12_lost (zz_u I 52 7 0) else zz_u I 52 7 0) J F := fun e c => by
    rw [if_pos e]
    exact ⟨.inl ⟨c, zz_us _ _ _ _⟩, fun z => absurd e z, hl⟩
  rcases zu_bet x 11 (by omega) with b | ⟨v, hv, rfl⟩
  · rcases b with b | b
    · exact no (zu_in0 b) (.inl b)
    · refine no ?_ (.inr ?_)
      · refine zu_in1 ?_
        by_cases k0 : k = 0
        · subst k0
          refine Int32.lt_trans (show nI 0 - 1 < nI 11 by decide) b
        · obtain ⟨m, rfl⟩ : ∃ m, k = m + 1 := ⟨k - 1, by omega⟩
          rw [nI_pred]
          refine Int32.lt_of_le_of_lt (nI_le (show m ≤ 11 by omega) (by omega)) b
      · have : ∀ z : Int32, nI 11 < z → nI 12 ≤ z := fun z hz => by
          rw [Int32.lt_iff_toInt_lt] at hz
          rw [Int32.le_iff_toInt_le]
          have e1 : (nI 11).toInt = 11 := by decide
          have e2 : (nI 12).toInt = 12 := by decide
          omega
        exact Int32.le_trans (nI_le hk (by omega)) (this x b)
  · by_cases q : v < k
    · obtain ⟨m, rfl⟩ : ∃ m, k = m + 1 := ⟨k - 1, by omega⟩
      have i1 : ¬ zv_X12_in (nI v) 0 (nI (m + 1) - 1) = 0 := by
        rw [nI_pred, zu_inY (by omega) (by omega)]; decide
      rw [if_neg i1, if_neg i1]
      refine ⟨.inr ⟨fun c => c.elim (nI_pos (by omega)) (nI_ge q (by omega)), nI_lt (by omega) (by omega), zz_us _ _ _ _, ?_⟩, fun _ => vp_in_nI (by omega) (by omega), zi_q0 h⟩
      unfold zc_row
      rw [nI_clamp (by omega)]
      exact (k3 v q).symm
    · refine no ?_ (.inr (nI_le (by omega) (by omega)))
      refine zu_in1 ?_
      by_cases k0 : k = 0
      · subst k0
        exact Int32.lt_of_lt_of_le (show nI 0 - 1 < nI 0 by decide) (nI_le (by omega) (by omega))
      · obtain ⟨m, rfl⟩ : ∃ m, k = m + 1 := ⟨k - 1, by omega⟩
        rw [nI_pred]
        exact nI_lt (by omega) (by omega)
theorem zy_play {N n : Nat} (hN : 100000 ≤ N) {I : Nat → Nat → Int32} {J : Nat → Nat → Int64} {F : zz_F} (h : zi n I J F) (x y : Int32) : (zT_play x y ∧ ∀ J' : Nat → Nat → Int64, zf_X12_play N x y I J' = some (zv_X12_lost (zz_u I 52 7 0), zw_X12_lost (zz_u I 52 7 0), J')) ∨ ∃ p w, p ≤ 1 ∧ w < 7 ∧ x = nI p ∧ y = nI w ∧ ¬ zv_X11_isPlay x = 0 ∧ zf_X11_nextOf N (nI p) I J = some (zh_nx n (I 53) (I 54) p, I, J) ∧ zf_X9_sumOf N (I 8 2 &&& zv_X9_scenesOf I (nI p)) 1 I J = some (zh_M n (I 54) (I 8 2 &&& zv_X9_scenesOf I (nI p)) 1, I, J) ∧ ∀ J' : Nat → Nat → Int64, zf_X12_play N x y I J' = some (zc_play n I p w, zz_u I 52 7 0, J') := by
  have hn := h.1.1
  have lost : ∀ M (J' : Nat → Nat → Int64), zl_X12_play N (M + 1) 22 0 0 (zz_u I 52 7 0) J' = some (zv_X12_lost (zz_u I 52 7 0), zw_X12_lost (zz_u I 52 7 0), J') := fun M J' => by
    rw [zo_X12_play_22]; rfl
  obtain ⟨M, hM⟩ : ∃ M, N = M + 1 + 1 := ⟨N - 2, by omega⟩
  have st : ∀ J' : Nat → Nat → Int64, zf_X12_play N x y I J' = zb_X12_play_0 N (zl_X12_play N (M + 1)) x y I J' := fun J' => by rw [hM]; exact zo_X12_play (M + 1) x y I J'
  rcases zu_bet x 1 (by omega) with q | ⟨p, hp, rfl⟩
  · exact .inl ⟨.inl (zs_isPlayN q), fun J' => by rw [st]; exact zu_gd (zu_inN 1 q) (lost M J')⟩
  · have im : ¬ zv_X12_isPlay (nI p) = 0 := by
      show ¬ zv_X12_in (nI p) 0 (nI 1) = 0
      rw [zu_inY (by omega) hp]; decide
    rcases zu_bet y 6 (by omega) with b | ⟨w, hw, rfl⟩
    · have i0 : zv_X12_in y 0 6 = 0 := zu_inN 6 b
      exact .inl ⟨.inr b, fun J' => by rw [st]; exact zu_gn im (zu_gn (fun c => c i0) (lost M J'))⟩
    · have i1 : ¬ zv_X12_in (nI w) 0 6 = 0 := by
        show ¬ zv_X12_in (nI w) 0 (nI 6) = 0
        rw [zu_inY (by omega) hw]; decide
      have Y1 : zz_u I 52 7 0 52 1 = nI n := h.1.2.1
      have nx := zs_next hN h hp
      have su := zs_sum1 hN (J := J) h.1 (I 8 2 &&& zv_X9_scenesOf I (nI p))
      have ow : ∀ z, z &&& zv_X9_scenesOf I (nI p) = zh_P n (I 54) z (nI p) := fun z => by
        obtain rfl | rfl : p = 0 ∨ p = 1 := by omega
        · exact zs_of0 h.1 z
        · exact zs_of1 h.1 z
      have three : ∀ w' (J' : Nat → Nat → Int64), zl_X12_play N (M + 1) 68 (nI p) w' (zz_u I 52 7 0) J' = some (zh_P n (I 54) (zh_W n (I 53) w') (nI p), zz_u I 52 7 0, J') := fun w' J' => by
        rw [zo_X12_play_68]
        exact zu_bd (zm_where hN hn Y1 w') (zu_bd (zm_ofPlay hN hn Y1 _ _) rfl)
      have e14 : (14 : Int32) + nI p = nI (14 + p) := nI_add 14 p
      have e16 : (16 : Int32) + nI p = nI (16 + p) := nI_add 16 p
      refine .inr ⟨p, w, hp, by omega, rfl, rfl, by rw [zs_isPlayY hp]; decide, nx, su, fun J' => ?_⟩
      rw [st]
      unfold zb_X12_play_0
      refine zu_gn im (zu_gd i1 ?_)
      obtain rfl | rfl | rfl | rfl | rfl | rfl | rfl : w = 0 ∨ w = 1 ∨ w = 2 ∨ w = 3 ∨ w = 4 ∨ w = 5 ∨ w = 6 := by omega
      · refine zu_gd rfl ?_
        rw [three]
        show some (zh_P n (I 54) (zh_W n (I 53) (nI 0)) (nI p), _, _) = some (I 8 2 &&& zv_X9_scenesOf I (nI p), _, _)
        rw [ow, h.2.1.2.2.1]; rfl
      · refine zu_gn (by decide) (zu_gd rfl ?_)
        rw [three]
        show some (zh_P n (I 54) (zh_W n (I 53) (nI 1)) (nI p), _, _) = some (I 8 3 &&& zv_X9_scenesOf I (nI p), _, _)
        rw [ow, h.2.1.2.2.2.1]; rfl
      · refine zu_gn (by decide) (zu_gn (by decide) (zu_gd rfl ?_))
        rw [three]
        show some (zh_P n (I 54) (zh_W n (I 53) (nI 2)) (nI p), _, _) = some (I 8 4 &&& zv_X9_scenesOf I (nI p), _, _)
        rw [ow, h.2.1.2.2.2.2.1]; rfl
      · refine zu_gn (by decide) (zu_gn (by decide) (zu_gn (by decide) (zu_gd rfl ?_)))
        rw [e14, nI_clamp (by omega)]
        refine zu_gd (fun c => c.elim (nI_pos (by omega)) (fun c => by omega)) ?_
        show some (I 53 (14 + p), _, _) = some (zz_kn I (nI p), _, _)
        obtain rfl | rfl : p = 0 ∨ p = 1 := by omega
        · rw [show zz_kn I (nI 0) = I 53 14 from h.2.1.2.2.2.2.2.1]
        · rw [show zz_kn I (nI 1) = I 53 15 from h.2.1.2.2.2.2.2.2.1]
      · refine zu_gn (by decide) (zu_gn (by decide) (zu_gn (by decide) (zu_gn (by decide) (zu_gd rfl ?_))))
        rw [e16, nI_clamp (by omega)]
        refine zu_gd (fun c => c.elim (nI_pos (by omega)) (fun c => by omega)) ?_
        show some (I 53 (16 + p), _, _) = some (zv_X5_cheersIn I (nI p), _, _)
        obtain rfl | rfl : p = 0 ∨ p = 1 := by omega
        · rw [show zv_X5_cheersIn I (nI 0) = I 53 16 from h.2.1.2.2.2.2.2.2.2.1]
        · rw [show zv_X5_cheersIn I (nI 1) = I 53 17 from h.2.1.2.2.2.2.2.2.2.2.1]
      · refine zu_gn (by decide) (zu_gn (by decide) (zu_gn (by decide) (zu_gn (by decide) (zu_gn (by decide) (zu_gd rfl ?_)))))
        exact zu_bd (zm_next hN hn (I := zz_u I 52 7 0) Y1 p) rfl
      · refine zu_gn (by decide) (zu_gn (by decide) (zu_gn (by decide) (zu_gn (by decide) (zu_gn (by decide) (zu_gn (by decide) ?_)))))
        refine zu_bd (zm_where hN hn Y1 0) (zu_bd (zm_ofPlay hN hn Y1 _ _) (zu_bd (zm_minutes hN hn Y1 _) ?_))
        show some (zh_M n (I 54) (zh_P n (I 54) (zh_W n (I 53) 0) (nI p)) 1, _, _) = some (zh_M n (I 54) (I 8 2 &&& zv_X9_scenesOf I (nI p)) 1, _, _)
        rw [ow, h.2.1.2.2.1]; rfl
