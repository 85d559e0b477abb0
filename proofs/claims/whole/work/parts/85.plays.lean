/-! PLAYS -/
theorem zy_plays {N n : Nat} (hN : 100000 ≤ N) {I : Nat → Nat → Int32} {J : Nat → Nat → Int64} {F : zz_F} (h : zi n I J F) (x : Int32) : ∃ v I1 J1 I2 J2 F2, zf_X11_plays N x I J = some (v, I1, J1) ∧ zf_X12_plays N x I1 J1 F = some (v, I2, J2, F2) ∧ zi n I2 J2 F2 := by
  have hn := h.1.1
  rcases zu_bet x 1 (by omega) with q | ⟨p, hp, rfl⟩
  · obtain ⟨M, rfl⟩ := zu_one N hN
    have a : zf_X11_plays (M + 1) x I J = some (-1, I, J) := by
      rw [zo_X11_plays]
      exact zu_gn (fun w => w (zs_isPlayN q)) rfl
    have b : zf_X12_plays (M + 1) x I J F = some (-1, zz_u I 52 7 0, J, F) := by
      rw [zo_X12_plays]
      exact zu_gn (fun w => w (zu_inN 1 q)) rfl
    exact ⟨_, _, _, _, _, _, a, b, zi_q0 h⟩
  · have ip : ¬ zv_X11_isPlay (nI p) = 0 := by rw [zs_isPlayY hp]; decide
    have im : ¬ zv_X12_isPlay (nI p) = 0 := by
      show ¬ zv_X12_in (nI p) 0 (nI 1) = 0
      rw [zu_inY (by omega) hp]; decide
    rcases zh_nx_ok n (I 53) (I 54) p with e | ⟨s, hs, e, s0, sp⟩
    · have a : zf_X11_plays N (nI p) I J = some (-2, I, J) := by
        obtain ⟨M, rfl⟩ := zu_one N hN
        rw [zo_X11_plays]
        exact zu_gd ip (zu_bd (zs_next hN h hp) (zu_gn (fun w => w e) rfl))
      have b : zf_X12_plays N (nI p) I J F = some (-2, zz_u I 52 7 0, J, F) := by
        obtain ⟨M, rfl⟩ := zu_one N hN
        rw [zo_X12_plays]
        exact zu_gd im (zu_bd (zm_next (I := zz_u I 52 7 0) hN hn h.1.2.1 p) (zu_gn (fun w => w e) rfl))
      exact ⟨_, _, _, _, _, _, a, b, zi_q0 h⟩
    · have ne : ¬ nI s = -1 := fun q => nI_pos (n := s) (by omega) (by rw [q]; decide)
      obtain ⟨X, ex, hX, fr, x1, x28⟩ := zs_fresh hN h
      obtain ⟨mm, ru, bt⟩ := zs_betw hX fr
      obtain ⟨m, t, hm, ht, h5, h20, h4, hk⟩ := hX.2.2.2.2.2.1
      obtain ⟨C, ec, c1, c4, c5, c8⟩ := zs_push hN (I := X) (J := J) ht hm h4 h5
      have X53 : X 53 = I 53 := x1 53 (by omega) (by omega) (by omega)
      have X54 : X 54 = I 54 := x1 54 (by omega) (by omega) (by omega)
      have C8 : C 8 = X 8 := c1 8 (by omega) (by omega)
      have C52 : C 52 = X 52 := c1 52 (by omega) (by omega)
      have C53 : C 53 = X 53 := c1 53 (by omega) (by omega)
      have C54 : C 54 = X 54 := c1 54 (by omega) (by omega)
      have C58 : C 58 = X 58 := c1 58 (by omega) (by omega)
      have sC : zi_sc n C := zc_sc hX.1 (congrFun (c1 5 (by omega) (by omega)) 2) (c1 6 (by omega) (by omega)) (c1 7 (by omega) (by omega)) (congrFun C52 1) C54
      have rC : zi_row n (C 53) (C 8) := by rw [C53, C8]; exact hX.2.1
      have chv : zv_X1_between C (C 8 1) (nI s) = zh_ch mm (X 58) (X 53) (X 54) s := by
        rw [C8, show zv_X1_between C = zv_X1_between X by
          funext u v
          unfold zv_X1_between
          rw [c1 31 (by omega) (by omega)]]
        exact zs_chh hX bt hs
      generalize hch : zh_ch mm (X 58) (X 53) (X 54) s = ch at chv
      obtain ⟨pr, pv, pf, p0⟩ := zs_perf sC rC hs hp (by rw [C54, X54]; exact sp) (by rw [C53, X53]; exact s0) ch
      rw [C53, C54] at pr pv p0
      have A : zf_X11_plays N (nI p) I J = some (zh_pl (X 53) (X 54) s p ch 12, zz_u (zz_perfm C (nI s) ch) 2 3 3, zz_u (zz_u (zz_u J 4 0 (nI s).toInt64) 4 1 ch.toInt64) 4 2 (zh_bq (X 53) (X 54) s p).toInt64) := by
        obtain ⟨M, rfl⟩ := zu_one N hN
        rw [zo_X11_plays]
        unfold zb_X11_plays_0
        refine zu_gd ip (zu_bd ((zs_next hN h hp).trans (congrArg (fun v => some (v, I, J)) e)) (zu_gd ne (zu_bd ex (zu_bd ec (zu_gd (fun g1 g2 _ _ => ?_) ?_)))))
        · dsimp only at g1 g2 ⊢
          rw [C8, hX.2.1.2.1] at g1 g2 ⊢
          rcases hX.2.1.2.2.2.2.2.2.2.2.2.2 with w | ⟨l, hl, w⟩
          · rw [w] at g1; exact absurd (by decide) g1
          · rw [w, show nI l * 12 = nI (l * 12) from pk_mul l 12, nI_add]
            exact nI_in (by omega) (by omega)
        · dsimp only
          rw [chv, pv, zu_t3, zu_x3, Option.bind_some]
          rw [show zz_u (zz_perfm C (nI s) ch) 2 3 3 8 0 = zz_perfm C (nI s) ch 8 0 from rfl, p0]
      obtain ⟨R, er, r1, r61, r20, r52⟩ := zm_rem hN (I := zz_u (zz_u (zz_perfm C (nI s) ch) 2 3 3) 52 7 0) (J := zz_u (zz_u (zz_u J 4 0 (nI s).toInt64) 4 1 ch.toInt64) 4 2 (zh_bq (X 53) (X 54) s p).toInt64) hm (by
        rw [zz_un (by omega), zu_ux (by omega), pf 52 (by omega), C52]
        exact h20)
      have P : ∀ x, x ≠ 8 → x ≠ 2 → x ≠ 52 → (zz_u (zz_u (zz_perfm C (nI s) ch) 2 3 3) 52 7 0) x = C x := fun x a1 a2 a3 => by rw [zu_ux a3, zu_ux a2, pf x a1]
      have P52 : ∀ i, i ≠ 7 → (zz_u (zz_u (zz_perfm C (nI s) ch) 2 3 3) 52 7 0) 52 i = C 52 i := fun i hi => by rw [zz_un (fun w => hi w.2), zu_ux (by omega), pf 52 (by omega)]
      have R53 : R 53 = X 53 := by rw [r1 53 (by omega) (by omega), P 53 (by omega) (by omega) (by omega), C53]
      have R54 : R 54 = X 54 := by rw [r1 54 (by omega) (by omega), P 54 (by omega) (by omega) (by omega), C54]
      have R58 : R 58 = X 58 := by rw [r1 58 (by omega) (by omega), P 58 (by omega) (by omega) (by omega), C58]
      have ruR : zr_ru mm (X 58) R F := ⟨ru.1, by rw [r52 16 (by omega), P52 16 (by omega), C52]; exact ru.2.1, R58, ru.2.2.2.1, ru.2.2.2.2⟩
      have laR : R 53 13 = -1 ∨ ∃ l, l < n ∧ R 53 13 = nI l := by rw [R53]; exact hX.2.1.2.2.2.2.2.2.2.2.2.2
      obtain ⟨Y1, F1, ey1, fy1, fF1⟩ := zm_behind hN hn (J := zz_u (zz_u (zz_u J 4 0 (nI s).toInt64) 4 1 ch.toInt64) 4 2 (zh_bq (X 53) (X 54) s p).toInt64) ruR laR hs
      have Y53 : Y1 53 = X 53 := by rw [fy1.1 53 (by omega) (by omega), R53]
      have Y54 : Y1 54 = X 54 := by rw [fy1.1 54 (by omega) (by omega), R54]
      obtain ⟨Y2, F2, ey2, fy2, fF2⟩ := zm_go hN hn (J := zz_u (zz_u (zz_u J 4 0 (nI s).toInt64) 4 1 ch.toInt64) 4 2 (zh_bq (X 53) (X 54) s p).toInt64) (zr_ru_c ruR fy1 fF1) (by rw [Y53]; exact hX.2.1.2.2.2.2.2.2.2.2.2.2) hs hp (by rw [Y54, X54]; exact sp)
      rw [R53, R54, hch] at ey1
      rw [Y53, Y54, hch] at ey2
      have nxt : zf_X12_nextOf__53 N (nI p) (zz_u (zz_u (zz_perfm C (nI s) ch) 2 3 3) 52 7 0) (zz_u (zz_u (zz_u J 4 0 (nI s).toInt64) 4 1 ch.toInt64) 4 2 (zh_bq (X 53) (X 54) s p).toInt64) = some (nI s, zz_u (zz_u (zz_perfm C (nI s) ch) 2 3 3) 52 7 0, zz_u (zz_u (zz_u J 4 0 (nI s).toInt64) 4 1 ch.toInt64) 4 2 (zh_bq (X 53) (X 54) s p).toInt64) := by
        rw [zm_next hN hn (by rw [P52 1 (by omega), C52]; exact hX.1.2.1) p, P 53 (by omega) (by omega) (by omega), P 54 (by omega) (by omega) (by omega), C53, C54, X53, X54, e]
      have fr2 := zr_fr_trans fy1 fy2
      have Bq : zf_X12_plays N (nI p) (zz_u (zz_perfm C (nI s) ch) 2 3 3) (zz_u (zz_u (zz_u J 4 0 (nI s).toInt64) 4 1 ch.toInt64) 4 2 (zh_bq (X 53) (X 54) s p).toInt64) F = some (zh_pl (X 53) (X 54) s p ch 12, zz_u (zh_r Y2 53 (zh_pl (X 53) (X 54) s p ch)) 52 6 3, zz_u (zz_u (zz_u (zz_u (zz_u (zz_u J 4 0 (nI s).toInt64) 4 1 ch.toInt64) 4 2 (zh_bq (X 53) (X 54) s p).toInt64) 56 0 (nI s).toInt64) 56 1 ch.toInt64) 56 2 (zh_bq (X 53) (X 54) s p).toInt64, F2) := by
        obtain ⟨M, rfl⟩ := zu_one N hN
        rw [zo_X12_plays]
        unfold zb_X12_plays_0
        refine zu_gd im (zu_bd nxt (zu_gd ne (zu_bd er (zu_bd ey1 (zu_bd ey2 (zu_gd zu_20_0 (zu_gd zu_20_1 (zu_bd rfl (zu_gd zu_20_2 (zu_bd rfl ?_))))))))))
        dsimp only
        simp only [zu_m1, zu_m2, zu_m3, zu_y1, zu_y2, zu_y3, zz_us, zu_ga, zu_gb, zu_gc, not_false_eq_true, if_true, ite_true, zu_t1, zu_t2, zu_t3, zu_x1, zu_x2, zu_x3]
        rfl
      refine ⟨_, _, _, _, _, _, A, Bq, zi_step hX ht hm hk c1 c4 c5 c8 P (fun i hi => by rw [zu_ux (by omega), zz_un (fun w => hi w.2), pf 2 (by omega)]) P52 r1 r61 r20 r52 (fun a a1 a2 a3 => by rw [zu_ux a2, zu_rx a1, fr2.1 a a3 a2]) (fun i hz => by
        rw [zz_un (fun w => by rw [w.2] at hz; cases hz), zu_rx (by omega)]
        exact fr2.2 i (fun w => by subst w; cases hz) (fun w => by subst w; cases hz) (fun w => by subst w; cases hz) (fun w => by subst w; cases hz) (fun w => by subst w; cases hz)) ?_ ?_ (zF_ok fF2 (zF_ok fF1 h.2.2.2.2.2.2.2.2))⟩
      · rw [zu_ux (show 53 ≠ 52 by omega), show zh_r Y2 53 (zh_pl (X 53) (X 54) s p ch) 53 = zh_pl (X 53) (X 54) s p ch from funext fun j => zh_rr _ _ _ j, zu_ux (show 8 ≠ 52 by omega), zu_ux (show 8 ≠ 2 by omega)]
        exact pr
      · refine zi_tol3 ?_ rfl rfl rfl rfl
        rw [zu_ux (show 2 ≠ 52 by omega), zu_rx (show 2 ≠ 53 by omega), fr2.1 2 (by omega) (by omega), r1 2 (by omega) (by omega)]
        rfl
