/-! CHANGE -/
theorem zy_change {N n : Nat} (hN : 100000 ≤ N) {I : Nat → Nat → Int32} {J : Nat → Nat → Int64} {F : zz_F} (h : zi n I J F) (x y : Int32) : ∃ v I1 J1 I2 J2 F2, zf_X11_change N x y I J = some (v, I1, J1) ∧ zf_X12_change N x y I1 J1 F = some (v, I2, J2, F2) ∧ zi n I2 J2 F2 := by
  have hn := h.1.1
  have no : zf_X11_change N x y I J = some (-1, I, J) → zf_X12_change N x y I J F = some (-1, zz_u I 52 7 0, J, F) → ∃ v I1 J1 I2 J2 F2, zf_X11_change N x y I J = some (v, I1, J1) ∧ zf_X12_change N x y I1 J1 F = some (v, I2, J2, F2) ∧ zi n I2 J2 F2 := fun a b => ⟨_, _, _, _, _, _, a, b, zi_q0 h⟩
  rcases zu_scn h.1 x with ⟨q1, q2⟩ | ⟨a, ha, rfl, q1, q2⟩
  · obtain ⟨M, rfl⟩ := zu_one N hN
    refine no ?_ ?_
    · rw [zo_X11_change]; exact zu_gd q1 rfl
    · rw [zo_X12_change]; exact zu_gd (q2 _ rfl) rfl
  · rcases zu_scn h.1 y with ⟨r1, r2⟩ | ⟨b, hb, rfl, r1, r2⟩
    · obtain ⟨M, rfl⟩ := zu_one N hN
      refine no ?_ ?_
      · rw [zo_X11_change]; exact zu_gn (by rw [q1]; decide) (zu_gn (fun w => w r1) rfl)
      · rw [zo_X12_change]; exact zu_gn (by rw [q2 (zz_u I 52 7 0) rfl]; decide) (zu_gn (fun w => w (r2 _ rfl)) rfl)
    · obtain ⟨X, ex, hX, fr, x1, x28⟩ := zs_fresh hN h
      obtain ⟨m, ru, bt⟩ := zs_betw hX fr
      have e52 : X 52 = I 52 := x1 52 (by omega) (by omega) (by omega)
      have cf : ∀ s w, s < n → w < 7 → zz_f X (nI s) (nI w) = X 54 (7 * s + w) := fun s w hs hw => by rw [zu_cfw (by omega) hw, hX.1.2.2.2.1 _ (by omega)]
      have A : zf_X11_change N (nI a) (nI b) I J = some (zt_c m X a b, zz_u X 2 3 2, zz_u (zz_u J 4 0 (X 54 (7 * a + 2) &&& X 54 (7 * b + 2)).toInt64) 4 1 (X 54 (7 * a + 3) ^^^ X 54 (7 * b + 3)).toInt64) := by
        obtain ⟨M, rfl⟩ := zu_one N hN
        rw [zo_X11_change]
        unfold zb_X11_change_0
        refine zu_gn (by rw [q1]; decide) (zu_gd (by rw [r1]; decide) (zu_bd ex (zu_gd (fun _ _ _ _ => ?_) ?_)))
        · rw [show nI a * 12 = nI (a * 12) from pk_mul a 12, nI_add]
          exact nI_in (by omega) (by omega)
        · dsimp only
          rw [show zz_f X (nI a) 2 = _ from cf a 2 ha (by omega), show zz_f X (nI b) 2 = _ from cf b 2 hb (by omega), show zz_f X (nI a) 3 = _ from cf a 3 ha (by omega), show zz_f X (nI b) 3 = _ from cf b 3 hb (by omega), zu_t2, zu_x2]
          rw [show zv_X1_between (zz_u X 2 3 2) (nI a) (nI b) = zv_X1_between X (nI a) (nI b) from rfl, bt a b ha hb]
      obtain ⟨Y, F', ey, fy, fF⟩ := zm_chg hN (I := zz_u (zz_u (zz_u X 2 3 2) 52 7 0) 52 6 2) (J := zz_u (zz_u (zz_u (zz_u J 4 0 (X 54 (7 * a + 2) &&& X 54 (7 * b + 2)).toInt64) 4 1 (X 54 (7 * a + 3) ^^^ X 54 (7 * b + 3)).toInt64) 56 0 (X 54 (7 * a + 2) &&& X 54 (7 * b + 2)).toInt64) 56 1 (X 54 (7 * a + 3) ^^^ X 54 (7 * b + 3)).toInt64) (F := F) (m := m) (t := X 58) (show zr_ru m (X 58) (zz_u (zz_u (zz_u X 2 3 2) 52 7 0) 52 6 2) F from ru) (show a < 12 by omega) (show b < 12 by omega)
      have Bq : zf_X12_change N (nI a) (nI b) (zz_u X 2 3 2) (zz_u (zz_u J 4 0 (X 54 (7 * a + 2) &&& X 54 (7 * b + 2)).toInt64) 4 1 (X 54 (7 * a + 3) ^^^ X 54 (7 * b + 3)).toInt64) F = some (zt_c m X a b, Y, zz_u (zz_u (zz_u (zz_u J 4 0 (X 54 (7 * a + 2) &&& X 54 (7 * b + 2)).toInt64) 4 1 (X 54 (7 * a + 3) ^^^ X 54 (7 * b + 3)).toInt64) 56 0 (X 54 (7 * a + 2) &&& X 54 (7 * b + 2)).toInt64) 56 1 (X 54 (7 * a + 3) ^^^ X 54 (7 * b + 3)).toInt64, F') := by
        obtain ⟨M, rfl⟩ := zu_one N hN
        rw [zo_X12_change]
        unfold zb_X12_change_0
        refine zu_gn (by rw [q2 (zz_u (zz_u X 2 3 2) 52 7 0) (congrFun e52 1)]; decide) (zu_gd (by rw [r2 (zz_u (zz_u X 2 3 2) 52 7 0) (congrFun e52 1)]; decide) ?_)
        refine zu_gd (by rw [zu_72]; exact nI_in (show 7 * a + 2 < 84 by omega) (by omega)) (zu_gd (by rw [zu_72]; exact nI_in (show 7 * b + 2 < 84 by omega) (by omega)) (zu_gd zu_20_0 (zu_bd rfl (zu_gd (by rw [zu_73]; exact nI_in (show 7 * a + 3 < 84 by omega) (by omega)) (zu_gd (by rw [zu_73]; exact nI_in (show 7 * b + 3 < 84 by omega) (by omega)) (zu_gd zu_20_1 (zu_bd rfl ?_)))))))
        rw [zu_f2 (show a < 12 by omega), zu_f2 (show b < 12 by omega), zu_f3 (show a < 12 by omega), zu_f3 (show b < 12 by omega)]
        simp only [zu_m1, zu_m2, zu_m3, zu_y1, zu_y2, zu_y3, zz_us, zu_ga, zu_gb, zu_gc, not_false_eq_true, if_true, ite_true, zu_t1, zu_t2, zu_t3, zu_x1, zu_x2, zu_x3]
        exact zu_bd ey rfl
      exact ⟨_, _, _, _, _, _, A, Bq, zi_told hX (zk_trans (zk_u rfl (zk_u rfl (zk_u rfl (zk_refl X)))) (zr_fr_zk fy)) (zi_tol2 (by rw [fy.1 2 (by omega) (by omega)]; rfl) (by rw [fy.2 6 (by omega) (by omega) (by omega) (by omega) (by omega)]; rfl) rfl rfl) (zF_ok fF h.2.2.2.2.2.2.2.2)⟩
