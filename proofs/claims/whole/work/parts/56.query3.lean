/-! CLASH, MEND, SPARE -/
def zh_L (f : Nat → Int32) (x : Int32) (n : Nat) : Int32 := zz_sum (fun s => if bt x s = true then f (7 * s + 6) - f (7 * s + 6) / 2 else 0) n
theorem zs_lost_l {N n : Nat} (hN : 100000 ≤ N) {I : Nat → Nat → Int32} {J : Nat → Nat → Int64} (h : zi_sc n I) (x : Int32) : ∀ k s f, s + k = n → k < f → zl_X10_lostIn N f 4 x (zh_L (I 54) x s) (nI s) 0 I J = some (zh_L (I 54) x n, I, J) := by
  intro k
  have hn := h.1
  induction k with
  | zero =>
    intro s f hs hf
    obtain ⟨m, rfl⟩ : ∃ m, f = m + 1 := ⟨f - 1, by omega⟩
    obtain rfl : s = n := by omega
    rw [zo_X10_lostIn_4]
    unfold zb_X10_lostIn_4
    rw [h.2.2.1, if_pos (nI_le (Nat.le_refl s) (by omega))]
  | succ k ih =>
    intro s f hs hf
    obtain ⟨m, rfl⟩ : ∃ m, f = m + 1 := ⟨f - 1, by omega⟩
    refine Eq.trans ?_ (ih (s + 1) m (by omega) (by omega))
    have e0 : I 6 (7 * s + 6) = I 54 (7 * s + 6) := h.2.2.2.1 _ (by omega)
    rw [zo_X10_lostIn_4]
    unfold zb_X10_lostIn_4
    rw [h.2.2.1, if_neg (nI_ge (show s < n by omega) (by omega))]
    simp (disch := omega) only [nI_clamp, nI_leI, nI_ltI, nI_eq, nI_1, zu_gi, zu_lt0, zu_has, zu_b1, zu_b0, zu_bz, zu_play, zu_or0, zu_nle, false_or, or_false, Option.bind_some, if_true, if_false, ite_true, ite_false, not_true_eq_false, not_false_eq_true, decide_eq_true_eq, zu_f0, zu_f1, zu_f2, zu_f3, zu_f4, zu_f5, zu_f6, zu_cf0, zu_cf1, zu_cf2, zu_cf3, zu_cf4, zu_cf5, zu_cf6, zu_70, zu_71, zu_72, zu_73, zu_74, zu_75, zu_76, e0, zh_L, zz_sum]
    by_cases b : bt x s = true <;> simp [b]
theorem zs_lost {N n : Nat} (hN : 100000 ≤ N) {I : Nat → Nat → Int32} {J : Nat → Nat → Int64} (h : zi_sc n I) (x : Int32) : zf_X10_lostIn N x I J = some (zh_L (I 54) x n, I, J) := by
  obtain ⟨M, rfl⟩ := zu_one N hN
  have hn := h.1
  rw [zo_X10_lostIn]
  exact zs_lost_l hN h x n 0 M (by omega) (by omega)
theorem zm_clash_l {N n : Nat} (hN : 100000 ≤ N) (hn : n ≤ 12) {I : Nat → Nat → Int32} {J : Nat → Nat → Int64} (h1 : I 52 1 = nI n) (x : Int32) : ∀ k s f, s + k = n → k < f → zl_X12_clash N f 19 x (zh_L (I 54) x s) (nI s) I J = some (x, zz_u I 52 6 2, zz_u (zz_u J 56 0 (zv_J6_bitCount x).toInt64) 56 1 (zh_L (I 54) x n).toInt64) := by
  intro k
  induction k with
  | zero =>
    intro s f hs hf
    obtain ⟨m, rfl⟩ : ∃ m, f = m + 1 := ⟨f - 1, by omega⟩
    obtain rfl : s = n := by omega
    rw [zo_X12_clash_19]
    unfold zb_X12_clash_19
    rw [h1, if_pos (nI_le (Nat.le_refl s) (by omega))]
    simp only [zu_m1, zu_m2, zu_m3, zu_y1, zu_y2, zu_y3, zz_us, zu_ga, zu_gb, zu_gc, not_false_eq_true, if_true, ite_true, zu_t1, zu_t2, zu_t3, zu_x1, zu_x2, zu_x3]
  | succ k ih =>
    intro s f hs hf
    obtain ⟨m, rfl⟩ : ∃ m, f = m + 1 := ⟨f - 1, by omega⟩
    refine Eq.trans ?_ (ih (s + 1) m (by omega) (by omega))
    rw [zo_X12_clash_19]
    unfold zb_X12_clash_19
    rw [h1, if_neg (nI_ge (show s < n by omega) (by omega))]
    simp (disch := omega) only [nI_clamp, nI_leI, nI_ltI, nI_eq, nI_1, zu_gi, zu_lt0, zu_has, zu_b1, zu_b0, zu_bz, zu_play, zu_or0, zu_nle, false_or, or_false, Option.bind_some, if_true, if_false, ite_true, ite_false, not_true_eq_false, not_false_eq_true, decide_eq_true_eq, zu_f0, zu_f1, zu_f2, zu_f3, zu_f4, zu_f5, zu_f6, zu_cf0, zu_cf1, zu_cf2, zu_cf3, zu_cf4, zu_cf5, zu_cf6, zu_70, zu_71, zu_72, zu_73, zu_74, zu_75, zu_76, zh_L, zz_sum]
    by_cases b : bt x s = true <;> simp [b]
theorem zm_clash' {N n : Nat} (hN : 100000 ≤ N) (hn : n ≤ 12) {I : Nat → Nat → Int32} {J : Nat → Nat → Int64} (h1 : I 52 1 = nI n) : zf_X12_clash N I J = some ((zh_C (I 54) (zh_W n (I 53) 0) (I 53 14) (I 53 15) n).2.2, zz_u (zz_u I 52 7 0) 52 6 2, zz_u (zz_u J 56 0 (zv_J6_bitCount (zh_C (I 54) (zh_W n (I 53) 0) (I 53 14) (I 53 15) n).2.2).toInt64) 56 1 (zh_L (I 54) (zh_C (I 54) (zh_W n (I 53) 0) (I 53 14) (I 53 15) n).2.2 n).toInt64) := by
  obtain ⟨M, rfl⟩ := zu_one N hN
  rw [zo_X12_clash]
  unfold zb_X12_clash_0
  refine zu_bd (zm_where hN hn (by exact h1) _) (zu_bd (zm_clashNow hN hn (by exact h1) _) ?_)
  exact zm_clash_l (I := zz_u I 52 7 0) hN hn h1 _ n 0 M (by omega) (by omega)
theorem zy_clash {N n : Nat} (hN : 100000 ≤ N) {I : Nat → Nat → Int32} {J : Nat → Nat → Int64} {F : zz_F} (h : zi n I J F) : ∃ v I1 J1 I2 J2, zf_X11_clash N I J = some (v, I1, J1) ∧ zf_X12_clash N I1 J1 = some (v, I2, J2) ∧ zi n I2 J2 F := by
  have hW : I 8 2 = zh_W n (I 53) 0 := h.2.1.2.2.1
  have e : zf_X11_clash N I J = some ((zh_C (I 54) (zh_W n (I 53) 0) (I 53 14) (I 53 15) n).2.2, zz_u I 2 3 2, zz_u (zz_u J 4 0 (zv_J6_bitCount (zh_C (I 54) (zh_W n (I 53) 0) (I 53 14) (I 53 15) n).2.2).toInt64) 4 1 (zh_L (I 54) (zh_C (I 54) (zh_W n (I 53) 0) (I 53 14) (I 53 15) n).2.2 n).toInt64) := by
    obtain ⟨M, rfl⟩ := zu_one N hN
    rw [zo_X11_clash]
    unfold zb_X11_clash_0
    rw [hW]
    refine zu_bd (zs_clash hN h _) (zu_bd (zs_lost hN h.1 _) ?_)
    simp only [zu_t2, zu_x2]
  exact ⟨_, _, _, _, _, e, zm_clash' (I := zz_u I 2 3 2) hN h.1.1 h.1.2.1, zi_q2 h _ _⟩
/-- the facts that a set needs -/
def zh_N (f : Nat → Int32) (x : Int32) (n : Nat) : Int32 := zz_or (fun s => if bt x s = true then (1 : Int32) <<< (f (7 * s + 5) &&& 31) else 0) n
/-- all that clash need a fact -/
theorem zh_C_need {f : Nat → Int32} {x k0 k1 : Int32} : ∀ n, n ≤ 12 → ∀ i, i < 32 → bt (zh_C f x k0 k1 n).2.2 i = true → i < n ∧ ¬ f (7 * i + 5) = -1
  | 0, _, i, _, h => by simp [zh_C, b_0] at h
  | n + 1, hn, i, hi, h => by
    have ih := zh_C_need (f := f) (x := x) (k0 := k0) (k1 := k1) n (by omega) i hi
    have add : ∀ k : Int32, bt (if zh_cl (f (7 * n + 5)) k = true then (zh_C f x k0 k1 n).2.2 ||| ((1 : Int32) <<< (nI n &&& 31)) else (zh_C f x k0 k1 n).2.2) i = true → i < n + 1 ∧ ¬ f (7 * i + 5) = -1 := by
      intro k q
      split at q
      · next c =>
        rw [b_or, b_bit n (by omega) hi] at q
        by_cases e : i = n
        · subst e
          refine ⟨by omega, fun w => ?_⟩
          unfold zh_cl at c
          simp [w] at c
        · simp [e] at q
          exact ⟨by have := (ih q).1; omega, (ih q).2⟩
      · exact ⟨by have := (ih q).1; omega, (ih q).2⟩
    unfold zh_C at h
    split at h
    · split at h
      · exact add _ h
      · exact add _ h
    · exact ⟨by have := (ih h).1; omega, (ih h).2⟩
theorem zs_need_l {N n : Nat} (hN : 100000 ≤ N) {I : Nat → Nat → Int32} {J : Nat → Nat → Int64} (h : zi_sc n I) (x : Int32) (hx : ∀ i, i < n → bt x i = true → ¬ I 54 (7 * i + 5) = -1) : ∀ k s f, s + k = n → k < f → zl_X10_factsNeeded N f 4 x (zh_N (I 54) x s) (nI s) 0 I J = some (zh_N (I 54) x n, I, J) := by
  intro k
  have hn := h.1
  induction k with
  | zero =>
    intro s f hs hf
    obtain ⟨m, rfl⟩ : ∃ m, f = m + 1 := ⟨f - 1, by omega⟩
    obtain rfl : s = n := by omega
    rw [zo_X10_factsNeeded_4]
    unfold zb_X10_factsNeeded_4
    rw [h.2.2.1, if_pos (nI_le (Nat.le_refl s) (by omega))]
  | succ k ih =>
    intro s f hs hf
    obtain ⟨m, rfl⟩ : ∃ m, f = m + 1 := ⟨f - 1, by omega⟩
    refine Eq.trans ?_ (ih (s + 1) m (by omega) (by omega))
    have e0 : I 6 (7 * s + 5) = I 54 (7 * s + 5) := h.2.2.2.1 _ (by omega)
    rw [zo_X10_factsNeeded_4]
    unfold zb_X10_factsNeeded_4
    rw [h.2.2.1, if_neg (nI_ge (show s < n by omega) (by omega))]
    simp (disch := omega) only [nI_clamp, nI_leI, nI_ltI, nI_eq, nI_1, zu_gi, zu_lt0, zu_has, zu_b1, zu_b0, zu_bz, zu_play, zu_or0, zu_nle, false_or, or_false, Option.bind_some, if_true, if_false, ite_true, ite_false, not_true_eq_false, not_false_eq_true, decide_eq_true_eq, zu_f0, zu_f1, zu_f2, zu_f3, zu_f4, zu_f5, zu_f6, zu_cf0, zu_cf1, zu_cf2, zu_cf3, zu_cf4, zu_cf5, zu_cf6, zu_70, zu_71, zu_72, zu_73, zu_74, zu_75, zu_76, e0, zh_N, zz_or]
    by_cases b : bt x s = true
    · obtain ⟨-, -, -, -, -, h5, -⟩ := h.2.2.2.2.1 s (by omega)
      rcases h5 with e | ⟨v, hv, e⟩
      · exact absurd e (hx s (by omega) b)
      · have e : I 54 (7 * s + 5) = nI v := e
        rw [e]
        simp [b, nI_pos (n := v) (by omega)]
    · simp [b]
theorem zs_need {N n : Nat} (hN : 100000 ≤ N) {I : Nat → Nat → Int32} {J : Nat → Nat → Int64} (h : zi_sc n I) (x : Int32) (hx : ∀ i, i < n → bt x i = true → ¬ I 54 (7 * i + 5) = -1) : zf_X10_factsNeeded N x I J = some (zh_N (I 54) x n, I, J) := by
  obtain ⟨M, rfl⟩ := zu_one N hN
  have hn := h.1
  rw [zo_X10_factsNeeded]
  exact zs_need_l hN h x hx n 0 M (by omega) (by omega)
theorem zm_mend_l {N n : Nat} (hN : 100000 ≤ N) (hn : n ≤ 12) {I : Nat → Nat → Int32} {J : Nat → Nat → Int64} (h1 : I 52 1 = nI n) (hp : ∀ s, s < n → I 54 (7 * s) = 0 ∨ I 54 (7 * s) = 1) (x : Int32) : ∀ k s f, s + k = n → k < f → zl_X12_mend N f 22 x (zh_N (I 54) (zh_P n (I 54) x 0) s) (zh_N (I 54) (zh_P n (I 54) x 1) s) (nI s) I J = some (zv_J6_bitCount (zh_N (I 54) (zh_P n (I 54) x 0) n) + zv_J6_bitCount (zh_N (I 54) (zh_P n (I 54) x 1) n), zz_u I 52 6 2, zz_u (zz_u J 56 0 (zh_N (I 54) (zh_P n (I 54) x 0) n).toInt64) 56 1 (zh_N (I 54) (zh_P n (I 54) x 1) n).toInt64) := by
  intro k
  induction k with
  | zero =>
    intro s f hs hf
    obtain ⟨m, rfl⟩ : ∃ m, f = m + 1 := ⟨f - 1, by omega⟩
    obtain rfl : s = n := by omega
    rw [zo_X12_mend_22]
    unfold zb_X12_mend_22
    rw [h1, if_pos (nI_le (Nat.le_refl s) (by omega))]
    simp only [zu_m1, zu_m2, zu_m3, zu_y1, zu_y2, zu_y3, zz_us, zu_ga, zu_gb, zu_gc, not_false_eq_true, if_true, ite_true, zu_t1, zu_t2, zu_t3, zu_x1, zu_x2, zu_x3]
  | succ k ih =>
    intro s f hs hf
    obtain ⟨m, rfl⟩ : ∃ m, f = m + 1 := ⟨f - 1, by omega⟩
    refine Eq.trans ?_ (ih (s + 1) m (by omega) (by omega))
    have b0 : bt (zh_P n (I 54) x 0) s = (bt x s && decide (I 54 (7 * s) = 0)) := zu_set_at (by omega) (by omega)
    have b1 : bt (zh_P n (I 54) x 1) s = (bt x s && decide (I 54 (7 * s) = 1)) := zu_set_at (by omega) (by omega)
    rw [zo_X12_mend_22]
    unfold zb_X12_mend_22
    rw [h1, if_neg (nI_ge (show s < n by omega) (by omega))]
    simp (disch := omega) only [nI_clamp, nI_leI, nI_ltI, nI_eq, nI_1, zu_gi, zu_lt0, zu_has, zu_b1, zu_b0, zu_bz, zu_play, zu_or0, zu_nle, false_or, or_false, Option.bind_some, if_true, if_false, ite_true, ite_false, not_true_eq_false, not_false_eq_true, decide_eq_true_eq, zu_f0, zu_f1, zu_f2, zu_f3, zu_f4, zu_f5, zu_f6, zu_cf0, zu_cf1, zu_cf2, zu_cf3, zu_cf4, zu_cf5, zu_cf6, zu_70, zu_71, zu_72, zu_73, zu_74, zu_75, zu_76, zh_N, zz_or, b0, b1]
    by_cases b : bt x s = true
    · rcases hp s (by omega) with e | e <;> simp [b, e, zu_or0]
    · simp [b, zu_or0]
theorem zy_mend {N n : Nat} (hN : 100000 ≤ N) {I : Nat → Nat → Int32} {J : Nat → Nat → Int64} {F : zz_F} (h : zi n I J F) : ∃ v I1 J1 I2 J2, zf_X11_mend N I J = some (v, I1, J1) ∧ zf_X12_mend N I1 J1 = some (v, I2, J2) ∧ zi n I2 J2 F := by
  have hW : I 8 2 = zh_W n (I 53) 0 := h.2.1.2.2.1
  have hn := h.1.1
  have hp : ∀ s, s < n → I 54 (7 * s) = 0 ∨ I 54 (7 * s) = 1 := fun s hs => by
    obtain ⟨⟨v, hv, e⟩, -⟩ := h.1.2.2.2.2.1 s hs
    rcases (by omega : v = 0 ∨ v = 1) with rfl | rfl
    · exact .inl e
    · exact .inr e
  generalize hX : (zh_C (I 54) (zh_W n (I 53) 0) (I 53 14) (I 53 15) n).2.2 = X
  have nd : ∀ i, i < 32 → bt X i = true → i < n ∧ ¬ I 54 (7 * i + 5) = -1 := fun i hi q => by rw [← hX] at q; exact zh_C_need n hn i hi q
  have n0 : ∀ i, i < n → bt (zh_P n (I 54) X 0) i = true → ¬ I 54 (7 * i + 5) = -1 := fun i hi q => by
    rw [show bt (zh_P n (I 54) X 0) i = _ from zu_set_at (by omega) hi] at q
    simp at q
    exact (nd i (by omega) q.1).2
  have n1 : ∀ i, i < n → bt (zh_P n (I 54) X 1) i = true → ¬ I 54 (7 * i + 5) = -1 := fun i hi q => by
    rw [show bt (zh_P n (I 54) X 1) i = _ from zu_set_at (by omega) hi] at q
    simp at q
    exact (nd i (by omega) q.1).2
  have e : zf_X11_mend N I J = some (zv_J6_bitCount (zh_N (I 54) (zh_P n (I 54) X 0) n) + zv_J6_bitCount (zh_N (I 54) (zh_P n (I 54) X 1) n), zz_u I 2 3 2, zz_u (zz_u J 4 0 (zh_N (I 54) (zh_P n (I 54) X 0) n).toInt64) 4 1 (zh_N (I 54) (zh_P n (I 54) X 1) n).toInt64) := by
    obtain ⟨M, rfl⟩ := zu_one N hN
    rw [zo_X11_mend]
    unfold zb_X11_mend_0
    rw [hW]
    have ec := zs_clash hN h (zh_W n (I 53) 0)
    rw [hX] at ec
    refine zu_bd ec ?_
    simp only [zs_of0 h.1, zs_of1 h.1]
    refine zu_bd (zs_need hN h.1 _ n0) (zu_bd (zs_need hN h.1 _ n1) ?_)
    simp only [zu_t2, zu_x2]
  have e2 : zf_X12_mend N (zz_u I 2 3 2) (zz_u (zz_u J 4 0 (zh_N (I 54) (zh_P n (I 54) X 0) n).toInt64) 4 1 (zh_N (I 54) (zh_P n (I 54) X 1) n).toInt64) = some (zv_J6_bitCount (zh_N (I 54) (zh_P n (I 54) X 0) n) + zv_J6_bitCount (zh_N (I 54) (zh_P n (I 54) X 1) n), zz_u (zz_u (zz_u I 2 3 2) 52 7 0) 52 6 2, zz_u (zz_u (zz_u (zz_u J 4 0 (zh_N (I 54) (zh_P n (I 54) X 0) n).toInt64) 4 1 (zh_N (I 54) (zh_P n (I 54) X 1) n).toInt64) 56 0 (zh_N (I 54) (zh_P n (I 54) X 0) n).toInt64) 56 1 (zh_N (I 54) (zh_P n (I 54) X 1) n).toInt64) := by
    obtain ⟨M, rfl⟩ := zu_one N hN
    rw [zo_X12_mend]
    unfold zb_X12_mend_0
    refine zu_bd (zm_where hN hn (by exact h.1.2.1) _) (zu_bd ((zm_clashNow (I := zz_u (zz_u I 2 3 2) 52 7 0) hN hn h.1.2.1 _).trans (congrArg (fun v => some (v, _, _)) hX)) ?_)
    exact zm_mend_l (I := zz_u (zz_u I 2 3 2) 52 7 0) hN hn h.1.2.1 hp X n 0 M (by omega) (by omega)
  exact ⟨_, _, _, _, _, e, e2, zi_q2 h _ _⟩
