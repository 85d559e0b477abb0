/-! YEARS: both -/
theorem zi_n8 {n : Nat} {I : Nat → Nat → Int32} {J : Nat → Nat → Int64} {F : zz_F} (h : zi n I J F) {g : Nat → Int32} (hg : ∀ i, i < 9 → g i = I 8 i) : zi n (zh_r I 8 g) J F := by
  have o : ∀ x, x ≠ 8 → zh_r I 8 g x = I x := fun x hx => zu_rx hx
  have o' : ∀ x i, x ≠ 8 → zh_r I 8 g x i = I x i := fun x i hx => congrFun (o x hx) i
  obtain ⟨h1, h2, h3, h4, h5, h6, h7, h8, h9⟩ := h
  refine ⟨zc_sc h1 (o' _ _ (by omega)) (o _ (by omega)) (o _ (by omega)) (o' _ _ (by omega)) (o _ (by omega)), ?_, zc_txt h3 (o' _ _ (by omega)) (o' _ _ (by omega)) (o _ (by omega)) (o _ (by omega)), ?_, zc_bow h5 (o' _ _ (by omega)) (o' _ _ (by omega)) (o' _ _ (by omega)) (o' _ _ (by omega)), zc_rng h6 (o' _ _ (by omega)) (o' _ _ (by omega)) (o' _ _ (by omega)) (o _ (by omega)) (fun k _ => o _ (by omega)), zc_shl h7 (o' _ _ (by omega)) (o _ (by omega)) (o _ (by omega)) (o _ (by omega)) (o _ (by omega)) (fun k _ => o _ (by omega)), zc_rul h8 (o' _ _ (by omega)) (o' _ _ (by omega)) (o' _ _ (by omega)) (o _ (by omega)) (o _ (by omega)) (o _ (by omega)) (o _ (by omega)), h9⟩
  · rw [o 53 (by omega)]
    exact zi_row_c h1.1 (fun _ _ => rfl) (fun i hi => by rw [zh_rr]; exact hg i hi) h2
  · obtain ⟨k, k1, k2, k3, k4⟩ := h4
    exact ⟨k, k1, (o' _ _ (by omega)).trans k2, (o' _ _ (by omega)).trans k3, k4⟩
theorem zs_yf {N : Nat} (hN : 100000 ≤ N) (q : Int32) (I : Nat → Nat → Int32) (J : Nat → Nat → Int64) : zs_ye N q I J = some (I 8 0, zz_cpn (zz_u I 2 3 2) 8 13, zz_u (zz_u J 4 0 q.toInt64) 4 1 (I 8 7 + I 8 8).toInt64) := by
  unfold zs_ye zb_X11_years_43
  rw [if_pos (show (0 : Int32) ≤ 0 by decide), zu_t2, zu_x2, show zv_X5_cheersIn I 0 = I 8 7 from if_neg (fun w => w rfl), show zv_X5_cheersIn I 1 = I 8 8 from if_pos (by decide)]
  have e : ∀ X : Nat → Nat → Int32, ∀ Z : Nat → Nat → Int64, zf_X6_putHeldInto__8 N X Z = some (0, zz_cpn X 8 13, Z) := fun X Z => by
    obtain ⟨M, rfl⟩ := zu_one N hN
    rw [zo_X6_putHeldInto__8]
    rfl
  exact zu_bd (e _ _) rfl
theorem zm_yf {N : Nat} (q : Int32) (I : Nat → Nat → Int32) (J : Nat → Nat → Int64) (F : zz_F) : zm_ye N q I J F = some (I 63 12, zz_u I 52 6 2, zz_u (zz_u J 56 0 q.toInt64) 56 1 (I 63 16 + I 63 17).toInt64, F) := by
  unfold zm_ye zb_X12_years_37
  rw [if_pos (show (0 : Int32) ≤ 0 by decide)]
  refine zu_gd zu_20_0 (zu_gd zu_20_1 (zu_bd rfl ?_))
  simp only [zu_m1, zu_m2, zu_m3, zu_y1, zu_y2, zu_y3, zz_us, zu_ga, zu_gb, zu_gc, not_false_eq_true, if_true, ite_true, zu_t1, zu_t2, zu_t3, zu_x1, zu_x2, zu_x3]
  rfl
