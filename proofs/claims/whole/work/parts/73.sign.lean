/-! KEEP, SIGN, SHEET -/
theorem zy_keep {N n : Nat} (hN : 100000 ≤ N) {I : Nat → Nat → Int32} {J : Nat → Nat → Int64} {F : zz_F} (h : zi n I J F) (x : Int32) : ∃ v I1 J1 I2 J2, zf_X11_keep N x I J = some (v, I1, J1) ∧ zf_X12_keep N x I1 J1 = some (v, I2, J2) ∧ zi n I2 J2 F := by
  have hn := h.1.1
  obtain ⟨c, hc, c45, hs⟩ := h.2.2.2.2.2.2.1
  obtain ⟨M, rfl⟩ := zu_one N hN
  rcases zu_bet x 1 (by omega) with q | ⟨v, hv, rfl⟩
  · have a : zf_X11_keep (M + 1) x I J = some (0, I, J) := by
      rw [zo_X11_keep]
      unfold zb_X11_keep_0
      by_cases z : x < 0
      · rw [if_pos z]
      · rcases q with q | q
        · exact absurd q z
        · obtain ⟨j, hj, rfl⟩ := nI_of z
          rw [nI_ltI (by omega) hj] at q
          rw [if_neg z, if_neg (show ¬ nI j < 2 from nI_nlt (b := 2) (by omega) hj)]
    have b : zf_X12_keep (M + 1) x I J = some (0, zz_u I 52 7 0, J) := by
      rw [zo_X12_keep]
      exact zu_gn (fun w => w (zu_inN 1 q)) rfl
    exact ⟨_, _, _, _, _, a, b, zi_q0 h⟩
  · obtain ⟨r1, r2⟩ := zu_shelf v (by omega)
    have p2 : ¬ zv_X12_in (nI v) 0 1 = 0 := by rw [show (1 : Int32) = nI 1 from rfl, zu_inY (by omega) hv]; decide
    have vb : vp_nar .boolean 1 = 1 := by decide
    have a : zf_X11_keep (M + 1) (nI v) I J = some (1, zz_u (zz_cpn I (26 + v) 8) 12 v 1, J) := by
      rw [zo_X11_keep]
      unfold zb_X11_keep_0
      have es : zf_X6_shelve__8 (M + 1) (nI v) I J = some (0, zz_u (zz_cpn I (26 + v) 8) 12 v 1, J) := by
        rw [zo_X6_shelve__8]
        unfold zb_X6_shelve__8_0
        rw [if_neg (nI_pos (by omega)), if_neg (show ¬ (2 : Int32) ≤ nI v from nI_ge (b := 2) (by omega) (by omega)), nI_clamp (by omega), r1, if_pos r2, if_pos (by omega), vb]
      exact zu_gn (nI_pos (by omega)) (zu_gd (show nI v < 2 from nI_lt (b := 2) (by omega) (by omega)) (zu_bd es rfl))
    have C : ∀ a, a ≠ 12 → a ≠ 26 + v → zz_u (zz_cpn I (26 + v) 8) 12 v 1 a = I a := fun a h12 h26 => by rw [zu_ux h12, zu_cpn h26]
    have b : zf_X12_keep (M + 1) (nI v) (zz_u (zz_cpn I (26 + v) 8) 12 v 1) J = some (1, zh_r (zz_u (zz_u (zz_u (zz_u (zz_cpn I (26 + v) 8) 12 v 1) 52 7 0) 81 v 1) 82 v (I 52 45)) 80 (zh_pt (I 80) (I 53) (18 * v) 18), J) := by
      rw [zo_X12_keep]
      unfold zb_X12_keep_0
      refine zu_gd p2 (zu_gd (nI_in (show v < 2 by omega) (by omega)) ?_)
      rw [nI_clamp (by omega), vb, C 52 (by omega) (by omega), show (18 : Int32) * nI v = nI (18 * v) from pk_mul 18 v]
      refine zu_bd (zm_lay53_80 hN (18 * v) (by omega)) ?_
      simp (disch := omega) only [zu_ux, zu_cpn]
    have Y : ∀ a, a ≠ 12 → a ≠ 26 + v → a ≠ 52 → a ≠ 81 → a ≠ 82 → a ≠ 80 → zh_r (zz_u (zz_u (zz_u (zz_u (zz_cpn I (26 + v) 8) 12 v 1) 52 7 0) 81 v 1) 82 v (I 52 45)) 80 (zh_pt (I 80) (I 53) (18 * v) 18) a = I a := fun a h1 h2 h3 h4 h5 h6 => by rw [zu_rx h6, zu_ux h5, zu_ux h4, zu_ux h3, C a h1 h2]
    have Y52 : ∀ i, i ≠ 7 → zh_r (zz_u (zz_u (zz_u (zz_u (zz_cpn I (26 + v) 8) 12 v 1) 52 7 0) 81 v 1) 82 v (I 52 45)) 80 (zh_pt (I 80) (I 53) (18 * v) 18) 52 i = I 52 i := fun i hi => by rw [zu_rx (by omega), zu_ux (by omega), zu_ux (by omega), zz_un (fun w => hi w.2), C 52 (by omega) (by omega)]
    have e54 := Y 54 (by omega) (by omega) (by omega) (by omega) (by omega) (by omega)
    refine ⟨_, _, _, _, _, a, b, zc_sc h.1 (congrFun (Y 5 (by omega) (by omega) (by omega) (by omega) (by omega) (by omega)) 2) (Y 6 (by omega) (by omega) (by omega) (by omega) (by omega) (by omega)) (Y 7 (by omega) (by omega) (by omega) (by omega) (by omega) (by omega)) (Y52 1 (by omega)) e54, ?_, zc_txt h.2.2.1 (congrFun (Y 2 (by omega) (by omega) (by omega) (by omega) (by omega) (by omega)) 1) (Y52 4 (by omega)) (Y 3 (by omega) (by omega) (by omega) (by omega) (by omega) (by omega)) (Y 55 (by omega) (by omega) (by omega) (by omega) (by omega) (by omega)), zc_tol h.2.2.2.1 (congrFun (Y 2 (by omega) (by omega) (by omega) (by omega) (by omega) (by omega)) 3) (Y52 6 (by omega)) rfl rfl, zc_bow h.2.2.2.2.1 (congrFun (Y 2 (by omega) (by omega) (by omega) (by omega) (by omega) (by omega)) 15) (congrFun (Y 2 (by omega) (by omega) (by omega) (by omega) (by omega) (by omega)) 16) (Y52 43 (by omega)) (Y52 44 (by omega)), zc_rng h.2.2.2.2.2.1 (congrFun (Y 9 (by omega) (by omega) (by omega) (by omega) (by omega) (by omega)) 4) (congrFun (Y 9 (by omega) (by omega) (by omega) (by omega) (by omega) (by omega)) 5) (Y52 20 (by omega)) (Y 61 (by omega) (by omega) (by omega) (by omega) (by omega) (by omega)) (fun k hk => Y _ (by omega) (by omega) (by omega) (by omega) (by omega) (by omega)), ?_, zc_rul h.2.2.2.2.2.2.2.1 (Y52 16 (by omega)) (congrFun (Y 28 (by omega) (by omega) (by omega) (by omega) (by omega) (by omega)) 3) (congrFun (Y 28 (by omega) (by omega) (by omega) (by omega) (by omega) (by omega)) 4) (Y 29 (by omega) (by omega) (by omega) (by omega) (by omega) (by omega)) (Y 31 (by omega) (by omega) (by omega) (by omega) (by omega) (by omega)) (Y 58 (by omega) (by omega) (by omega) (by omega) (by omega) (by omega)) e54, h.2.2.2.2.2.2.2.2⟩
    · rw [Y 53 (by omega) (by omega) (by omega) (by omega) (by omega) (by omega), Y 8 (by omega) (by omega) (by omega) (by omega) (by omega) (by omega)]
      exact h.2.1
    · refine ⟨c, hc, by rw [Y52 45 (by omega)]; exact c45, fun i hi => ?_⟩
      rw [Y52 45 (by omega), zu_rx (show 12 ≠ 80 by omega), zu_ux (show 12 ≠ 82 by omega), zu_ux (show 12 ≠ 81 by omega), zu_ux (show 12 ≠ 52 by omega), zu_rx (show 81 ≠ 80 by omega), zu_ux (show 81 ≠ 82 by omega), zu_rx (show 82 ≠ 80 by omega), zu_rx (show 26 + i ≠ 80 by omega), zu_ux (show 26 + i ≠ 82 by omega), zu_ux (show 26 + i ≠ 81 by omega), zu_ux (show 26 + i ≠ 52 by omega), zu_ux (show 26 + i ≠ 12 by omega)]
      by_cases e : i = v
      · subst e
        rw [zz_us, zz_us, zz_us]
        refine ⟨.inr rfl, .inr rfl, ⟨c, Nat.le_refl c, c45⟩, ⟨fun _ => ⟨rfl, rfl⟩, fun _ => rfl⟩, fun _ => ?_⟩
        exact zi_row_c hn (fun j hj => by rw [zh_rr]; exact zh_pt_in hj) (fun j hj => zu_cpi hj) h.2.1
      · have f12 : zz_u (zz_cpn I (26 + v) 8) 12 v 1 12 i = I 12 i := by rw [zz_un (fun w => e w.2), zu_cpn (by omega)]
        have f81 : zz_u (zz_u (zz_u (zz_cpn I (26 + v) 8) 12 v 1) 52 7 0) 81 v 1 81 i = I 81 i := by rw [zz_un (fun w => e w.2), zu_ux (by omega), C 81 (by omega) (by omega)]
        have f82 : zz_u (zz_u (zz_u (zz_u (zz_cpn I (26 + v) 8) 12 v 1) 52 7 0) 81 v 1) 82 v (I 52 45) 82 i = I 82 i := by rw [zz_un (fun w => e w.2), zu_ux (by omega), zu_ux (by omega), C 82 (by omega) (by omega)]
        rw [f12, f81, f82, zu_cpn (show 26 + i ≠ 26 + v by omega)]
        obtain ⟨s1, s2, s3, s4, s5⟩ := hs i hi
        refine ⟨s1, s2, s3, s4, fun z => zi_row_c hn (fun j hj => ?_) (fun _ _ => rfl) (s5 z)⟩
        rw [zh_rr, zh_pt_out (by omega)]
