theorem zy_years {N n : Nat} (hN : 100000 ≤ N) {I : Nat → Nat → Int32} {J : Nat → Nat → Int64} {F : zz_F} (h : zi n I J F) (x z : Int32) : ∃ v I1 J1 I2 J2 F2, zf_X11_years N x z I J = some (v, I1, J1) ∧ zf_X12_years N x z I1 J1 F = some (v, I2, J2, F2) ∧ zi n I2 J2 F2 := by
  have hn := h.1.1
  have bad : (z < 1 ∨ (60 : Int32) < z) → ∃ v I1 J1 I2 J2 F2, zf_X11_years N x z I J = some (v, I1, J1) ∧ zf_X12_years N x z I1 J1 F = some (v, I2, J2, F2) ∧ zi n I2 J2 F2 := fun q => by
    obtain ⟨M, rfl⟩ : ∃ M, N = M + 2 := ⟨N - 2, by omega⟩
    have r : zl_X11_years (M + 2) (M + 1) 11 0 0 0 0 0 I J = some (-1, I, J) := by rw [zo_X11_years_11]; rfl
    have a : zf_X11_years (M + 2) x z I J = some (-1, I, J) := by
      rw [zo_X11_years]
      unfold zb_X11_years_0
      by_cases p : z < 1
      · rw [if_pos p]; exact r
      · rw [if_neg p, if_neg (fun w => Int32.not_le.mpr (q.resolve_left p) w)]; exact r
    have b : zf_X12_years (M + 2) x z I J F = some (-1, zz_u I 52 7 0, J, F) := by
      rw [zo_X12_years]
      have e : zv_X12_in z 1 60 = 0 := by
        unfold zv_X12_in
        by_cases p : z < 1
        · rw [if_pos p]
        · rw [if_neg p, if_pos (q.resolve_left p)]
      exact zu_gn (fun w => w e) rfl
    exact ⟨_, _, _, _, _, _, a, b, zi_q0 h⟩
  by_cases p1 : z < 1
  · exact bad (.inl p1)
  by_cases p2 : (60 : Int32) < z
  · exact bad (.inr p2)
  obtain ⟨y, hy, rfl⟩ := nI_of2 (n := 60) (M := 60) (by decide) (x := z) (fun w => p1 (Int32.lt_trans w (by decide))) (Int32.not_lt.mp p2)
  obtain ⟨X, ex, hX, fr, x1, x28⟩ := zs_fresh hN h
  obtain ⟨mm, ru, bt⟩ := zs_betw hX fr
  have o : ∀ x, x ≠ 13 → zz_cpn X 13 8 x = X x := fun x hx => zu_cpn hx
  have sH : zi_sc n (zz_cpn X 13 8) := zc_sc hX.1 (congrFun (o 5 (by omega)) 2) (o 6 (by omega)) (o 7 (by omega)) (congrFun (o 52 (by omega)) 1) (o 54 (by omega))
  have bH : ∀ a b, a < n → b < n → zv_X1_between (zz_cpn X 13 8) (nI a) (nI b) = zt_c mm (zz_cpn X 13 8) a b := fun a b ha hb => by
    rw [show zv_X1_between (zz_cpn X 13 8) = zv_X1_between X by
      funext u v
      unfold zv_X1_between
      rw [o 31 (by omega)], bt a b ha hb]
    unfold zt_c
    rw [o 58 (by omega), o 54 (by omega)]
  have rH : zi_row n (zh_pt (X 63) (X 53) 0 18) (zz_cpn X 13 8 8) := zi_row_c hn (fun i hi => by have := zh_pt_in (g := X 63) (f := X 53) (b := 0) (k := 18) (j := i) hi; rw [Nat.zero_add] at this; exact this) (fun i _ => by rw [o 8 (by omega)]) hX.2.1
  obtain ⟨I', c1, c2, c3⟩ := zs_yl hN (J := J) sH bH hy y 0 (N - 1) x 0 (zz_cpn X 13 8) (zh_pt (X 63) (X 53) 0 18) (by omega) (by omega) (fun _ _ => rfl) rH
  rw [zs_yf hN, o 58 (by omega), o 54 (by omega)] at c3
  rw [o 58 (by omega), o 54 (by omega)] at c2
  generalize hA : zh_yr zh_sd zh_k n mm (X 58) (X 54) y x 0 (zh_pt (X 63) (X 53) 0 18) = A at c2 c3
  have A1 : zf_X11_years N x (nI y) I J = some (A.2 12, zz_cpn (zz_u I' 2 3 2) 8 13, zz_u (zz_u J 4 0 A.1.toInt64) 4 1 (A.2 16 + A.2 17).toInt64) := by
    rw [← c2.1, ← c2.2.2.2.2.2.2.2.1, ← c2.2.2.2.2.2.2.2.2.1]
    rw [← c3]
    obtain ⟨M, rfl⟩ := zu_one N hN
    have hh : zf_X6_hold__8 (M + 1) X J = some (0, zz_cpn X 13 8, J) := by rw [zo_X6_hold__8]; rfl
    rw [zo_X11_years]
    unfold zb_X11_years_0
    rw [if_neg p1, if_pos (Int32.not_lt.mp p2)]
    exact zu_bd ex (zu_bd hh rfl)
  have e1 : ∀ a, a ≠ 8 → a ≠ 13 → a ≠ 2 → zz_cpn (zz_u I' 2 3 2) 8 13 a = X a := fun a a1 a2 a3 => by rw [zu_cpn a1, zu_ux a3, c1 a a1, o a a2]
  have l := zm_lay53_63 hN (I := zz_u (zz_cpn (zz_u I' 2 3 2) 8 13) 52 7 0) (J := zz_u (zz_u J 4 0 A.1.toInt64) 4 1 (A.2 16 + A.2 17).toInt64) 0 (by omega)
  rw [show (zz_u (zz_cpn (zz_u I' 2 3 2) 8 13) 52 7 0) 63 = X 63 by rw [zu_ux (by omega), e1 63 (by omega) (by omega) (by omega)], show (zz_u (zz_cpn (zz_u I' 2 3 2) 8 13) 52 7 0) 53 = X 53 by rw [zu_ux (by omega), e1 53 (by omega) (by omega) (by omega)]] at l
  generalize hR : zh_r (zz_u (zz_cpn (zz_u I' 2 3 2) 8 13) 52 7 0) 63 (zh_pt (X 63) (X 53) 0 18) = R at l
  have R63 : R 63 = zh_pt (X 63) (X 53) 0 18 := by rw [← hR]; exact funext fun j => zh_rr _ _ _ j
  have Ro : ∀ a, a ≠ 63 → a ≠ 52 → R a = zz_cpn (zz_u I' 2 3 2) 8 13 a := fun a a1 a2 => by rw [← hR, zu_rx a1, zu_ux a2]
  have R52 : ∀ i, i ≠ 7 → R 52 i = X 52 i := fun i hi => by rw [← hR, zu_rx (by omega), zz_un (fun w => hi w.2), e1 52 (by omega) (by omega) (by omega)]
  have hl : R 63 13 = -1 ∨ ∃ l, l < n ∧ R 63 13 = nI l := by rw [R63]; exact rH.2.2.2.2.2.2.2.2.2.2
  have R54 : R 54 = X 54 := (Ro 54 (by omega) (by omega)).trans (e1 54 (by omega) (by omega) (by omega))
  have R58 : R 58 = X 58 := (Ro 58 (by omega) (by omega)).trans (e1 58 (by omega) (by omega) (by omega))
  obtain ⟨Y, F2, d1, d2, d3, d4⟩ := zm_yl hN hn (J := zz_u (zz_u J 4 0 A.1.toInt64) 4 1 (A.2 16 + A.2 17).toInt64) (m := mm) (t := X 58) (f := X 54) (fun l hl => (hX.1.2.2.2.2.1 l hl).1) hy y 0 (N - 1) x 0 R F (by omega) (by omega) ⟨ru.1, (R52 16 (by omega)).trans ru.2.1, R58, ru.2.2.2⟩ R54 ((R52 1 (by omega)).trans hX.1.2.1) hl
  rw [R63, hA] at d2 d4
  rw [zm_yf, d2] at d4
  have B1 : zf_X12_years N x (nI y) (zz_cpn (zz_u I' 2 3 2) 8 13) (zz_u (zz_u J 4 0 A.1.toInt64) 4 1 (A.2 16 + A.2 17).toInt64) F = some (A.2 12, zz_u Y 52 6 2, zz_u (zz_u (zz_u (zz_u J 4 0 A.1.toInt64) 4 1 (A.2 16 + A.2 17).toInt64) 56 0 A.1.toInt64) 56 1 (A.2 16 + A.2 17).toInt64, F2) := by
    rw [← d4]
    have e : ¬ zv_X12_in (nI y) 1 60 = 0 := by
      unfold zv_X12_in
      rw [if_neg p1, if_neg p2]
      decide
    obtain ⟨M, rfl⟩ := zu_one N hN
    rw [zo_X12_years]
    unfold zb_X12_years_0
    exact zu_gd e (zu_bd l rfl)
  have I13 : ∀ i, i < 9 → Y 8 i = X 8 i := fun i hi => by
    rw [d1.1 8 (by omega) (by omega) (by omega), Ro 8 (by omega) (by omega), zu_cpi hi, zu_ux (by omega), c1 13 (by omega), zu_cpi hi]
  refine ⟨_, _, _, _, _, _, A1, B1, zi_told (zi_n8 hX I13) (fun a i hk => ?_) (zi_tol2 ?_ rfl rfl rfl) (zF_ok d3 h.2.2.2.2.2.2.2.2)⟩
  · by_cases a8 : a = 8
    · subst a8
      rw [zu_ux (by omega), zh_rr]
    rw [zu_rx a8]
    by_cases a52 : a = 52
    · subst a52
      rw [zz_un (fun w => by rw [w.2] at hk; cases hk), d1.2 i (fun w => by subst w; cases hk) (fun w => by subst w; cases hk) (fun w => by subst w; cases hk) (fun w => by subst w; cases hk) (fun w => by subst w; cases hk)]
      exact R52 i (fun w => by subst w; cases hk)
    rw [zu_ux a52, d1.1 a (fun w => by subst w; cases hk) a52 (fun w => by subst w; cases hk), Ro a (fun w => by subst w; cases hk) a52]
    by_cases a2 : a = 2
    · subst a2
      rw [zu_cpn (by omega), zz_un (fun w => by rw [w.2] at hk; cases hk), c1 2 (by omega), o 2 (by omega)]
    · rw [e1 a a8 (fun w => by subst w; cases hk) a2]
  · rw [zu_ux (by omega), d1.1 2 (by omega) (by omega) (by omega), Ro 2 (by omega) (by omega), zu_cpn (by omega)]
    exact zz_us _ _ _ _
