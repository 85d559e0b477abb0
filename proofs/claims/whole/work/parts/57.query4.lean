/-! SPARE, KINGS, STAND, FITS, ASK -/
def zh_Sp (n : Nat) (a f : Nat → Int32) (w x : Int32) : Nat → Int32 := zu_set (fun s => bt w s && decide ((zh_C f (w &&& (((1 : Int32) <<< (nI s &&& 31)) ^^^ (-1))) (a 14) (a 15) n).2.2 &&& (x ^^^ (-1)) = 0))
theorem zs_spare_l {N n : Nat} (hN : 100000 ≤ N) {I : Nat → Nat → Int32} {J : Nat → Nat → Int64} {F : zz_F} (h : zi n I J F) (x : Int32) : ∀ k s f, s + k = n → k < f → zl_X10_sparable N f 16 x (zh_Sp n (I 53) (I 54) (I 8 2) x s) (nI s) 0 I J = some (zh_Sp n (I 53) (I 54) (I 8 2) x n, I, J) := by
  intro k
  have hn := h.1.1
  induction k with
  | zero =>
    intro s f hs hf
    obtain ⟨m, rfl⟩ : ∃ m, f = m + 1 := ⟨f - 1, by omega⟩
    obtain rfl : s = n := by omega
    rw [zo_X10_sparable_16]
    unfold zb_X10_sparable_16
    rw [h.1.2.2.1, if_pos (nI_le (Nat.le_refl s) (by omega))]
  | succ k ih =>
    intro s f hs hf
    obtain ⟨m, rfl⟩ : ∃ m, f = m + 1 := ⟨f - 1, by omega⟩
    refine Eq.trans ?_ (ih (s + 1) m (by omega) (by omega))
    rw [zo_X10_sparable_16]
    unfold zb_X10_sparable_16
    rw [h.1.2.2.1, if_neg (nI_ge (show s < n by omega) (by omega))]
    simp only [zs_clash hN h]
    simp (disch := omega) only [nI_clamp, nI_leI, nI_ltI, nI_eq, nI_1, zu_gi, zu_lt0, zu_has, zu_b1, zu_b0, zu_bz, zu_play, zu_or0, zu_nle, false_or, or_false, Option.bind_some, if_true, if_false, ite_true, ite_false, not_true_eq_false, not_false_eq_true, decide_eq_true_eq, zu_f0, zu_f1, zu_f2, zu_f3, zu_f4, zu_f5, zu_f6, zu_cf0, zu_cf1, zu_cf2, zu_cf3, zu_cf4, zu_cf5, zu_cf6, zu_70, zu_71, zu_72, zu_73, zu_74, zu_75, zu_76, zh_Sp, zu_set]
    by_cases b : bt (I 8 2) s = true
    · simp [b]
      split <;> rfl
    · simp [b]
theorem zm_spare_l {N n : Nat} (hN : 100000 ≤ N) (hn : n ≤ 12) {I : Nat → Nat → Int32} {J : Nat → Nat → Int64} (h1 : I 52 1 = nI n) (w x : Int32) : ∀ k s f, s + k = n → k < f → zl_X12_spare N f 22 w x (zh_Sp n (I 53) (I 54) w x s) (nI s) I J = some (zh_Sp n (I 53) (I 54) w x n, zz_u I 52 6 1, zz_u J 56 0 (zv_J6_bitCount (zh_Sp n (I 53) (I 54) w x n)).toInt64) := by
  intro k
  induction k with
  | zero =>
    intro s f hs hf
    obtain ⟨m, rfl⟩ : ∃ m, f = m + 1 := ⟨f - 1, by omega⟩
    obtain rfl : s = n := by omega
    rw [zo_X12_spare_22]
    unfold zb_X12_spare_22
    rw [h1, if_pos (nI_le (Nat.le_refl s) (by omega))]
    simp only [zu_m1, zu_m2, zu_m3, zu_y1, zu_y2, zu_y3, zz_us, zu_ga, zu_gb, zu_gc, not_false_eq_true, if_true, ite_true, zu_t1, zu_t2, zu_t3, zu_x1, zu_x2, zu_x3]
  | succ k ih =>
    intro s f hs hf
    obtain ⟨m, rfl⟩ : ∃ m, f = m + 1 := ⟨f - 1, by omega⟩
    refine Eq.trans ?_ (ih (s + 1) m (by omega) (by omega))
    rw [zo_X12_spare_22]
    unfold zb_X12_spare_22
    rw [h1, if_neg (nI_ge (show s < n by omega) (by omega))]
    simp only [zm_clashNow hN hn h1]
    simp (disch := omega) only [nI_clamp, nI_leI, nI_ltI, nI_eq, nI_1, zu_gi, zu_lt0, zu_has, zu_b1, zu_b0, zu_bz, zu_play, zu_or0, zu_nle, false_or, or_false, Option.bind_some, if_true, if_false, ite_true, ite_false, not_true_eq_false, not_false_eq_true, decide_eq_true_eq, zu_f0, zu_f1, zu_f2, zu_f3, zu_f4, zu_f5, zu_f6, zu_cf0, zu_cf1, zu_cf2, zu_cf3, zu_cf4, zu_cf5, zu_cf6, zu_70, zu_71, zu_72, zu_73, zu_74, zu_75, zu_76, zh_Sp, zu_set]
    by_cases b : bt w s = true
    · simp [b]
      split <;> rfl
    · simp [b]
theorem zy_spare {N n : Nat} (hN : 100000 ≤ N) {I : Nat → Nat → Int32} {J : Nat → Nat → Int64} {F : zz_F} (h : zi n I J F) : ∃ v I1 J1 I2 J2, zf_X11_spare N I J = some (v, I1, J1) ∧ zf_X12_spare N I1 J1 = some (v, I2, J2) ∧ zi n I2 J2 F := by
  have hW : I 8 2 = zh_W n (I 53) 0 := h.2.1.2.2.1
  have hn := h.1.1
  generalize hX : (zh_C (I 54) (zh_W n (I 53) 0) (I 53 14) (I 53 15) n).2.2 = X
  have e : zf_X11_spare N I J = some (zh_Sp n (I 53) (I 54) (zh_W n (I 53) 0) X n, zz_u I 2 3 1, zz_u J 4 0 (zv_J6_bitCount (zh_Sp n (I 53) (I 54) (zh_W n (I 53) 0) X n)).toInt64) := by
    obtain ⟨M, rfl⟩ := zu_one N hN
    have es : zf_X10_sparable (M + 1) I J = some (zh_Sp n (I 53) (I 54) (zh_W n (I 53) 0) X n, I, J) := by
      rw [zo_X10_sparable]
      unfold zb_X10_sparable_0
      have ec := zs_clash hN h (I 8 2)
      refine zu_bd ec ?_
      have := zs_spare_l hN h (zh_C (I 54) (I 8 2) (I 53 14) (I 53 15) n).2.2 n 0 M (by omega) (by omega)
      rw [hW, hX] at this
      rw [hW, hX]
      exact this
    rw [zo_X11_spare]
    unfold zb_X11_spare_0
    refine zu_bd es ?_
    simp only [zu_t1, zu_x1]
  have e2 : zf_X12_spare N (zz_u I 2 3 1) (zz_u J 4 0 (zv_J6_bitCount (zh_Sp n (I 53) (I 54) (zh_W n (I 53) 0) X n)).toInt64) = some (zh_Sp n (I 53) (I 54) (zh_W n (I 53) 0) X n, zz_u (zz_u (zz_u I 2 3 1) 52 7 0) 52 6 1, zz_u (zz_u J 4 0 (zv_J6_bitCount (zh_Sp n (I 53) (I 54) (zh_W n (I 53) 0) X n)).toInt64) 56 0 (zv_J6_bitCount (zh_Sp n (I 53) (I 54) (zh_W n (I 53) 0) X n)).toInt64) := by
    obtain ⟨M, rfl⟩ := zu_one N hN
    rw [zo_X12_spare]
    unfold zb_X12_spare_0
    refine zu_bd (zm_where hN hn (by exact h.1.2.1) _) (zu_bd ((zm_clashNow (I := zz_u (zz_u I 2 3 1) 52 7 0) hN hn h.1.2.1 _).trans (congrArg (fun v => some (v, _, _)) hX)) ?_)
    exact zm_spare_l (I := zz_u (zz_u I 2 3 1) 52 7 0) hN hn h.1.2.1 _ X n 0 M (by omega) (by omega)
  exact ⟨_, _, _, _, _, e, e2, zi_q1 h _⟩
theorem zy_kings {N n : Nat} (hN : 100000 ≤ N) {I : Nat → Nat → Int32} {J : Nat → Nat → Int64} {F : zz_F} (h : zi n I J F) : ∃ v I1 J1 I2 J2, zf_X11_kings N I J = some (v, I1, J1) ∧ zf_X12_kings N I1 J1 = some (v, I2, J2) ∧ zi n I2 J2 F := by
  have hW : I 8 2 = zh_W n (I 53) 0 := h.2.1.2.2.1
  have hn := h.1.1
  have e : zf_X11_kings N I J = some (zh_U n (I 54) (zh_P n (I 54) (zh_W n (I 53) 0) 0) 2 &&& zh_U n (I 54) (zh_P n (I 54) (zh_W n (I 53) 0) 1) 2, zz_u I 2 3 2, zz_u (zz_u J 4 0 (zv_J6_bitCount (zh_U n (I 54) (zh_P n (I 54) (zh_W n (I 53) 0) 0) 2 &&& zh_U n (I 54) (zh_P n (I 54) (zh_W n (I 53) 0) 1) 2)).toInt64) 4 1 (zh_M n (I 54) (zh_T n (I 54) (zh_W n (I 53) 0) (zh_U n (I 54) (zh_P n (I 54) (zh_W n (I 53) 0) 0) 2 &&& zh_U n (I 54) (zh_P n (I 54) (zh_W n (I 53) 0) 1) 2)) 1).toInt64) := by
    obtain ⟨M, rfl⟩ := zu_one N hN
    rw [zo_X11_kings]
    unfold zb_X11_kings_0
    simp only [hW, zs_of0 h.1, zs_of1 h.1, zs_union2 hN h.1, Option.bind_some, zs_with hN h.1, zs_ofT h.1, zs_sum1 hN h.1, zu_t2, zu_x2]
  have e2 : ∀ (I : Nat → Nat → Int32) (J : Nat → Nat → Int64), I 52 1 = nI n → zf_X12_kings N I J = some (zh_U n (I 54) (zh_P n (I 54) (zh_W n (I 53) 0) 0) 2 &&& zh_U n (I 54) (zh_P n (I 54) (zh_W n (I 53) 0) 1) 2, zz_u (zz_u I 52 7 0) 52 6 2, zz_u (zz_u J 56 0 (zv_J6_bitCount (zh_U n (I 54) (zh_P n (I 54) (zh_W n (I 53) 0) 0) 2 &&& zh_U n (I 54) (zh_P n (I 54) (zh_W n (I 53) 0) 1) 2)).toInt64) 56 1 (zh_M n (I 54) (zh_T n (I 54) (zh_W n (I 53) 0) (zh_U n (I 54) (zh_P n (I 54) (zh_W n (I 53) 0) 0) 2 &&& zh_U n (I 54) (zh_P n (I 54) (zh_W n (I 53) 0) 1) 2)) 1).toInt64) := by
    intro I J h1
    obtain ⟨M, rfl⟩ := zu_one N hN
    rw [zo_X12_kings]
    unfold zb_X12_kings_0
    simp only [zu_m1, zu_m2, zu_m3, zu_y1, zu_y2, zu_y3, zz_us, zu_ga, zu_gb, zu_gc, not_false_eq_true, if_true, ite_true, zu_t1, zu_t2, zu_t3, zu_x1, zu_x2, zu_x3]
    exact zu_bd (zm_where hN hn (by exact h1) _) (zu_bd (zm_ofPlay hN hn (by exact h1) _ _) (zu_bd (zm_persons hN hn (by exact h1) _) (zu_bd (zm_ofPlay hN hn (by exact h1) _ _) (zu_bd (zm_persons hN hn (by exact h1) _) (zu_bd (zm_with hN hn (by exact h1) _ _) (zu_bd (zm_minutes hN hn (by exact h1) _) rfl))))))
  exact ⟨_, _, _, _, _, e, e2 (zz_u I 2 3 2) _ h.1.2.1, zi_q2 h _ _⟩
/-- what is in all of a set -/
def zh_A (f : Nat → Int32) (x : Int32) : Nat → Int32
  | 0 => 15
  | s + 1 => if bt x s = true then zh_A f x s &&& f (7 * s + 3) else zh_A f x s
theorem zs_props_l {N n : Nat} (hN : 100000 ≤ N) {I : Nat → Nat → Int32} {J : Nat → Nat → Int64} (h : zi_sc n I) (x : Int32) : ∀ k s f, s + k = n → k < f → zl_X2_propsInAll N f 5 x (zh_A (I 54) x s) (nI s) I J = some (zh_A (I 54) x n, I, J) := by
  intro k
  have hn := h.1
  induction k with
  | zero =>
    intro s f hs hf
    obtain ⟨m, rfl⟩ : ∃ m, f = m + 1 := ⟨f - 1, by omega⟩
    obtain rfl : s = n := by omega
    rw [zo_X2_propsInAll_5]
    unfold zb_X2_propsInAll_5
    rw [h.2.2.1, if_pos (nI_le (Nat.le_refl s) (by omega))]
  | succ k ih =>
    intro s f hs hf
    obtain ⟨m, rfl⟩ : ∃ m, f = m + 1 := ⟨f - 1, by omega⟩
    refine Eq.trans ?_ (ih (s + 1) m (by omega) (by omega))
    have e0 : I 6 (7 * s + 3) = I 54 (7 * s + 3) := h.2.2.2.1 _ (by omega)
    rw [zo_X2_propsInAll_5]
    unfold zb_X2_propsInAll_5
    rw [h.2.2.1, if_neg (nI_ge (show s < n by omega) (by omega))]
    simp (disch := omega) only [nI_clamp, nI_leI, nI_ltI, nI_eq, nI_1, zu_gi, zu_lt0, zu_has, zu_b1, zu_b0, zu_bz, zu_play, zu_or0, zu_nle, false_or, or_false, Option.bind_some, if_true, if_false, ite_true, ite_false, not_true_eq_false, not_false_eq_true, decide_eq_true_eq, zu_f0, zu_f1, zu_f2, zu_f3, zu_f4, zu_f5, zu_f6, zu_cf0, zu_cf1, zu_cf2, zu_cf3, zu_cf4, zu_cf5, zu_cf6, zu_70, zu_71, zu_72, zu_73, zu_74, zu_75, zu_76, e0, zh_A]
    by_cases b : bt x s = true <;> simp [b]
theorem zm_stand_l {N n : Nat} (hN : 100000 ≤ N) (hn : n ≤ 12) {I : Nat → Nat → Int32} {J : Nat → Nat → Int64} (h1 : I 52 1 = nI n) : ∀ k s f, s + k = n → k < f → zl_X12_stand N f 12 (zh_A (I 54) (zh_W n (I 53) 0) s) (zh_U s (I 54) (zh_W n (I 53) 0) 3) (nI s) I J = some (zh_A (I 54) (zh_W n (I 53) 0) n, zz_u I 52 6 1, zz_u J 56 0 (15 &&& (zh_U n (I 54) (zh_W n (I 53) 0) 3 ^^^ (-1))).toInt64) := by
  intro k
  induction k with
  | zero =>
    intro s f hs hf
    obtain ⟨m, rfl⟩ : ∃ m, f = m + 1 := ⟨f - 1, by omega⟩
    obtain rfl : s = n := by omega
    rw [zo_X12_stand_12]
    unfold zb_X12_stand_12
    rw [h1, if_pos (nI_le (Nat.le_refl s) (by omega))]
    simp only [zu_m1, zu_m2, zu_m3, zu_y1, zu_y2, zu_y3, zz_us, zu_ga, zu_gb, zu_gc, not_false_eq_true, if_true, ite_true, zu_t1, zu_t2, zu_t3, zu_x1, zu_x2, zu_x3]
  | succ k ih =>
    intro s f hs hf
    obtain ⟨m, rfl⟩ : ∃ m, f = m + 1 := ⟨f - 1, by omega⟩
    refine Eq.trans ?_ (ih (s + 1) m (by omega) (by omega))
    have b0 : bt (zh_W n (I 53) 0) s = decide (I 53 s = 0) := zu_set_at (by omega) (by omega)
    rw [zo_X12_stand_12]
    unfold zb_X12_stand_12
    rw [h1, if_neg (nI_ge (show s < n by omega) (by omega))]
    simp (disch := omega) only [nI_clamp, nI_leI, nI_ltI, nI_eq, nI_1, zu_gi, zu_lt0, zu_has, zu_b1, zu_b0, zu_bz, zu_play, zu_or0, zu_nle, false_or, or_false, Option.bind_some, if_true, if_false, ite_true, ite_false, not_true_eq_false, not_false_eq_true, decide_eq_true_eq, zu_f0, zu_f1, zu_f2, zu_f3, zu_f4, zu_f5, zu_f6, zu_cf0, zu_cf1, zu_cf2, zu_cf3, zu_cf4, zu_cf5, zu_cf6, zu_70, zu_71, zu_72, zu_73, zu_74, zu_75, zu_76, zh_A, zh_U, zz_or, b0]
    by_cases b : I 53 s = 0 <;> simp [b, zu_or0]
theorem zy_stand {N n : Nat} (hN : 100000 ≤ N) {I : Nat → Nat → Int32} {J : Nat → Nat → Int64} {F : zz_F} (h : zi n I J F) : ∃ v I1 J1 I2 J2, zf_X11_stand N I J = some (v, I1, J1) ∧ zf_X12_stand N I1 J1 = some (v, I2, J2) ∧ zi n I2 J2 F := by
  have hW : I 8 2 = zh_W n (I 53) 0 := h.2.1.2.2.1
  have hn := h.1.1
  have e : zf_X11_stand N I J = some (zh_A (I 54) (zh_W n (I 53) 0) n, zz_u I 2 3 1, zz_u J 4 0 (15 &&& (zh_U n (I 54) (zh_W n (I 53) 0) 3 ^^^ (-1))).toInt64) := by
    obtain ⟨M, rfl⟩ := zu_one N hN
    rw [zo_X11_stand]
    unfold zb_X11_stand_0
    rw [hW]
    refine zu_bd (zs_union3 hN h.1 _) ?_
    simp only [zu_t1, zu_x1]
    have ep : zf_X2_propsInAll (M + 1) (zh_W n (I 53) 0) (zz_u I 2 3 1) (zz_u J 4 0 (15 &&& (zh_U n (I 54) (zh_W n (I 53) 0) 3 ^^^ (-1))).toInt64) = some (zh_A (I 54) (zh_W n (I 53) 0) n, zz_u I 2 3 1, zz_u J 4 0 (15 &&& (zh_U n (I 54) (zh_W n (I 53) 0) 3 ^^^ (-1))).toInt64) := by
      rw [zo_X2_propsInAll]
      exact zs_props_l (I := zz_u I 2 3 1) hN h.1 _ n 0 M (by omega) (by omega)
    rw [show zz_u I 2 3 1 8 2 = zh_W n (I 53) 0 from hW]
    exact zu_bd ep rfl
  have e2 : zf_X12_stand N (zz_u I 2 3 1) (zz_u J 4 0 (15 &&& (zh_U n (I 54) (zh_W n (I 53) 0) 3 ^^^ (-1))).toInt64) = some (zh_A (I 54) (zh_W n (I 53) 0) n, zz_u (zz_u (zz_u I 2 3 1) 52 7 0) 52 6 1, zz_u (zz_u J 4 0 (15 &&& (zh_U n (I 54) (zh_W n (I 53) 0) 3 ^^^ (-1))).toInt64) 56 0 (15 &&& (zh_U n (I 54) (zh_W n (I 53) 0) 3 ^^^ (-1))).toInt64) := by
    obtain ⟨M, rfl⟩ := zu_one N hN
    rw [zo_X12_stand]
    exact zm_stand_l (I := zz_u (zz_u I 2 3 1) 52 7 0) hN hn h.1.2.1 n 0 M (by omega) (by omega)
  exact ⟨_, _, _, _, _, e, e2, zi_q1 h _⟩
/-! bows -/
def zh_F (f : Nat → Int32) (a b : Int32) : Nat → Int32 := zu_set (fun s => decide ((f (7 * s + 2) ^^^ b) &&& a = 0))
theorem zs_fit {p a b : Int32} (h : ∀ i, bt b i = true → bt a i = true) : (p &&& a = b) ↔ ((p ^^^ b) &&& a = 0) := by
  constructor
  · intro e
    apply b_ext
    intro i hi
    have := congrArg (fun y => bt y i) e
    simp only [b_and] at this
    rw [b_and, b_xor, b_0]
    have hh := h i
    cases hp : bt p i <;> cases ha : bt a i <;> cases hb : bt b i <;> simp_all
  · intro e
    apply b_ext
    intro i hi
    have := congrArg (fun y => bt y i) e
    simp only [b_and, b_xor, b_0] at this
    rw [b_and]
    have hh := h i
    cases hp : bt p i <;> cases ha : bt a i <;> cases hb : bt b i <;> simp_all
theorem zs_fitting_l {N n : Nat} (hN : 100000 ≤ N) {I : Nat → Nat → Int32} {J : Nat → Nat → Int64} {F : zz_F} (h : zi n I J F) : ∀ k s f, s + k = n → k < f → zl_X2_fitting N f 5 (I 52 43) (I 52 44) (zh_F (I 54) (I 52 43) (I 52 44) s) (nI s) I J = some (zh_F (I 54) (I 52 43) (I 52 44) n, I, J) := by
  intro k
  have hn := h.1.1
  induction k with
  | zero =>
    intro s f hs hf
    obtain ⟨m, rfl⟩ : ∃ m, f = m + 1 := ⟨f - 1, by omega⟩
    obtain rfl : s = n := by omega
    rw [zo_X2_fitting_5]
    unfold zb_X2_fitting_5
    rw [h.1.2.2.1, if_pos (nI_le (Nat.le_refl s) (by omega))]
  | succ k ih =>
    intro s f hs hf
    obtain ⟨m, rfl⟩ : ∃ m, f = m + 1 := ⟨f - 1, by omega⟩
    refine Eq.trans ?_ (ih (s + 1) m (by omega) (by omega))
    have e0 : I 6 (7 * s + 2) = I 54 (7 * s + 2) := h.1.2.2.2.1 _ (by omega)
    rw [zo_X2_fitting_5]
    unfold zb_X2_fitting_5
    rw [h.1.2.2.1, if_neg (nI_ge (show s < n by omega) (by omega))]
    have q := zs_fit (p := I 54 (7 * s + 2)) h.2.2.2.2.1.2.2.1
    simp (disch := omega) only [nI_clamp, nI_leI, nI_ltI, nI_eq, nI_1, zu_gi, zu_lt0, zu_has, zu_b1, zu_b0, zu_bz, zu_play, zu_or0, zu_nle, false_or, or_false, Option.bind_some, if_true, if_false, ite_true, ite_false, not_true_eq_false, not_false_eq_true, decide_eq_true_eq, zu_f0, zu_f1, zu_f2, zu_f3, zu_f4, zu_f5, zu_f6, zu_cf0, zu_cf1, zu_cf2, zu_cf3, zu_cf4, zu_cf5, zu_cf6, zu_70, zu_71, zu_72, zu_73, zu_74, zu_75, zu_76, e0, zh_F, zu_set, q]
    by_cases b : (I 54 (7 * s + 2) ^^^ I 52 44) &&& I 52 43 = 0 <;> simp [b]
theorem zs_fitting {N n : Nat} (hN : 100000 ≤ N) {I : Nat → Nat → Int32} {J : Nat → Nat → Int64} {F : zz_F} (h : zi n I J F) : zf_X2_fitting N (I 2 15) (I 2 16) I J = some (zh_F (I 54) (I 52 43) (I 52 44) n, I, J) := by
  obtain ⟨M, rfl⟩ := zu_one N hN
  have hn := h.1.1
  rw [h.2.2.2.2.1.1, h.2.2.2.2.1.2.1, zo_X2_fitting]
  exact zs_fitting_l hN h n 0 M (by omega) (by omega)
theorem zm_fitting_l {N n : Nat} (hN : 100000 ≤ N) (hn : n ≤ 12) {I : Nat → Nat → Int32} {J : Nat → Nat → Int64} (h1 : I 52 1 = nI n) : ∀ k s f, s + k = n → k < f → zl_X12_fitting N f 4 (zh_F (I 54) (I 52 43) (I 52 44) s) (nI s) I J = some (zh_F (I 54) (I 52 43) (I 52 44) n, I, J) := by
  intro k
  induction k with
  | zero =>
    intro s f hs hf
    obtain ⟨m, rfl⟩ : ∃ m, f = m + 1 := ⟨f - 1, by omega⟩
    obtain rfl : s = n := by omega
    rw [zo_X12_fitting_4]
    unfold zb_X12_fitting_4
    rw [h1, if_pos (nI_le (Nat.le_refl s) (by omega))]
  | succ k ih =>
    intro s f hs hf
    obtain ⟨m, rfl⟩ : ∃ m, f = m + 1 := ⟨f - 1, by omega⟩
    refine Eq.trans ?_ (ih (s + 1) m (by omega) (by omega))
    rw [zo_X12_fitting_4]
    unfold zb_X12_fitting_4
    rw [h1, if_neg (nI_ge (show s < n by omega) (by omega))]
    simp (disch := omega) only [nI_clamp, nI_leI, nI_ltI, nI_eq, nI_1, zu_gi, zu_lt0, zu_has, zu_b1, zu_b0, zu_bz, zu_play, zu_or0, zu_nle, false_or, or_false, Option.bind_some, if_true, if_false, ite_true, ite_false, not_true_eq_false, not_false_eq_true, decide_eq_true_eq, zu_f0, zu_f1, zu_f2, zu_f3, zu_f4, zu_f5, zu_f6, zu_cf0, zu_cf1, zu_cf2, zu_cf3, zu_cf4, zu_cf5, zu_cf6, zu_70, zu_71, zu_72, zu_73, zu_74, zu_75, zu_76, zh_F, zu_set]
    by_cases b : (I 54 (7 * s + 2) ^^^ I 52 44) &&& I 52 43 = 0 <;> simp [b]
theorem zm_fitting {N n : Nat} (hN : 100000 ≤ N) (hn : n ≤ 12) {I : Nat → Nat → Int32} {J : Nat → Nat → Int64} (h1 : I 52 1 = nI n) : zf_X12_fitting N I J = some (zh_F (I 54) (I 52 43) (I 52 44) n, I, J) := by
  obtain ⟨M, rfl⟩ := zu_one N hN
  rw [zo_X12_fitting]
  exact zm_fitting_l hN hn h1 n 0 M (by omega) (by omega)
theorem zy_fits {N n : Nat} (hN : 100000 ≤ N) {I : Nat → Nat → Int32} {J : Nat → Nat → Int64} {F : zz_F} (h : zi n I J F) : ∃ v I1 J1 I2 J2, zf_X11_fits N I J = some (v, I1, J1) ∧ zf_X12_fits N I1 J1 = some (v, I2, J2) ∧ zi n I2 J2 F := by
  have hn := h.1.1
  have e : zf_X11_fits N I J = some (zh_F (I 54) (I 52 43) (I 52 44) n, zz_u I 2 3 2, zz_u (zz_u J 4 0 (zv_J6_bitCount (zh_F (I 54) (I 52 43) (I 52 44) n)).toInt64) 4 1 (zv_J6_bitCount (zh_P n (I 54) (zh_F (I 54) (I 52 43) (I 52 44) n) 0)).toInt64) := by
    obtain ⟨M, rfl⟩ := zu_one N hN
    rw [zo_X11_fits]
    unfold zb_X11_fits_0
    simp only [zs_fitting hN h, Option.bind_some, zs_of0 h.1, zu_t2, zu_x2]
  have e2 : ∀ (I : Nat → Nat → Int32) (J : Nat → Nat → Int64), I 52 1 = nI n → zf_X12_fits N I J = some (zh_F (I 54) (I 52 43) (I 52 44) n, zz_u (zz_u I 52 7 0) 52 6 2, zz_u (zz_u J 56 0 (zv_J6_bitCount (zh_F (I 54) (I 52 43) (I 52 44) n)).toInt64) 56 1 (zv_J6_bitCount (zh_P n (I 54) (zh_F (I 54) (I 52 43) (I 52 44) n) 0)).toInt64) := by
    intro I J h1
    obtain ⟨M, rfl⟩ := zu_one N hN
    rw [zo_X12_fits]
    unfold zb_X12_fits_0
    simp only [zu_m1, zu_m2, zu_m3, zu_y1, zu_y2, zu_y3, zz_us, zu_ga, zu_gb, zu_gc, not_false_eq_true, if_true, ite_true, zu_t1, zu_t2, zu_t3, zu_x1, zu_x2, zu_x3]
    exact zu_bd (zm_fitting hN hn (by exact h1)) (zu_bd (zm_fitting hN hn (by exact h1)) (zu_bd (zm_ofPlay hN hn (by exact h1) _ _) (zu_bd (zm_fitting hN hn (by exact h1)) rfl)))
  exact ⟨_, _, _, _, _, e, e2 (zz_u I 2 3 2) _ h.1.2.1, zi_q2 h _ _⟩
