/-! UNDO, KEEP, AGAIN -/
theorem zm_undo_l {N : Nat} {I : Nat → Nat → Int32} {J : Nat → Nat → Int64} (c : Nat) (hc : c < 12) (h20 : I 52 20 = nI c) : ∀ k s f, s + k = 18 → k < f → zl_X12_undo N f 26 (nI s) (zh_r I 53 (zh_pt (I 53) (fun i => I 61 (18 * c + i)) 0 s)) J = some (nI c, zh_r I 53 (zh_pt (I 53) (fun i => I 61 (18 * c + i)) 0 18), J) := by
  intro k
  induction k with
  | zero =>
    intro s f hs hf
    obtain ⟨m, rfl⟩ : ∃ m, f = m + 1 := ⟨f - 1, by omega⟩
    obtain rfl : s = 18 := by omega
    rw [zo_X12_undo_26]
    unfold zb_X12_undo_26
    rw [if_pos (by decide), zu_rx (by omega), h20]
  | succ k ih =>
    intro s f hs hf
    obtain ⟨m, rfl⟩ : ∃ m, f = m + 1 := ⟨f - 1, by omega⟩
    refine Eq.trans ?_ (ih (s + 1) m (by omega) (by omega))
    rw [zo_X12_undo_26]
    unfold zb_X12_undo_26
    rw [if_neg (show ¬ (18 : Int32) ≤ nI s from nI_ge (b := 18) (by omega) (by omega)), zu_rx (show 52 ≠ 53 by omega), h20, show (18 : Int32) * nI c = nI (18 * c) from pk_mul 18 c, nI_add, if_pos (nI_in (show 18 * c + s < 216 by omega) (by omega)), if_pos (nI_in (show s < 18 by omega) (by omega)), nI_clamp (by omega), nI_clamp (by omega), zu_rx (show 61 ≠ 53 by omega), zh_ru, nI_1, ← zh_pt_s]
    rw [Nat.zero_add]
theorem zs_pop {N : Nat} (hN : 100000 ≤ N) {I : Nat → Nat → Int32} {J : Nat → Nat → Int64} {t m : Nat} (ht : t < 12) (h0 : 0 < m) (hm : m ≤ 12) (h4 : I 9 4 = nI t) (h5 : I 9 5 = nI m) : ∃ C, zf_X6_popInto__8 N I J = some (nI (m - 1), C, J) ∧ (∀ a, a ≠ 9 → a ≠ 8 → C a = I a) ∧ C 9 4 = nI ((t + 11) % 12) ∧ C 9 5 = nI (m - 1) ∧ ∀ i, i < 9 → C 8 i = I (14 + (t + 11) % 12) i := by
  obtain ⟨M, rfl⟩ := zu_one N hN
  rw [zo_X6_popInto__8]
  unfold zb_X6_popInto__8_0
  have m0 : ¬ I 9 5 = 0 := by rw [h5]; exact nI_ne0 h0 (by omega)
  rw [if_pos m0]
  by_cases z : t = 0
  · subst z
    obtain ⟨r1, r2⟩ := zu_ring 11 (by omega)
    rw [h4, if_pos (by decide), if_neg (by decide), r1, if_pos r2, if_pos (by omega)]
    have c5 : zz_cpn (zz_u I 9 4 11) 8 (14 + 11) 9 5 = nI m := by rw [zu_cpn (by omega)]; exact h5
    rw [c5, show nI m - 1 = nI (m - 1) by rw [show m = m - 1 + 1 by omega, nI_pred]; rfl]
    refine ⟨_, rfl, fun a h9 h8 => ?_, rfl, rfl, fun i hi => ?_⟩
    · rw [zu_ux h9, zu_cpn h8, zu_ux h9]
    · rw [zu_ux (by omega), zu_cpi hi, zu_ux (by omega)]
  · obtain ⟨r1, r2⟩ := zu_ring (t - 1) (by omega)
    have p : nI t - 1 = nI (t - 1) := by rw [show t = t - 1 + 1 by omega, nI_pred]; rfl
    rw [h4, if_neg (nI_nle (by omega) (by omega)), p, if_neg (show ¬ (12 : Int32) ≤ nI (t - 1) from nI_ge (b := 12) (by omega) (by omega)), if_pos (nI_in (show t - 1 < 12 by omega) (by omega)), nI_clamp (by omega), r1, if_pos r2, if_pos (by omega)]
    have c5 : zz_cpn (zz_u I 9 4 (nI (t - 1))) 8 (14 + (t - 1)) 9 5 = nI m := by rw [zu_cpn (by omega)]; exact h5
    have e : (t + 11) % 12 = t - 1 := by omega
    rw [c5, show nI m - 1 = nI (m - 1) by rw [show m = m - 1 + 1 by omega, nI_pred]; rfl, e]
    refine ⟨_, rfl, fun a h9 h8 => ?_, ?_, rfl, fun i hi => ?_⟩
    · rw [zu_ux h9, zu_cpn h8, zu_ux h9]
    · rw [zz_un (by omega), zu_cpn (by omega), zz_us]
    · rw [zu_ux (by omega), zu_cpi hi, zu_ux (by omega)]
/-- the night and its row come back together -/
theorem zi_back {n : Nat} {I Y : Nat → Nat → Int32} {J : Nat → Nat → Int64} {F : zz_F} (h : zi n I J F) (hY : ∀ a, a ≠ 8 → a ≠ 9 → a ≠ 52 → a ≠ 53 → Y a = I a) (h52 : ∀ i, i ≠ 7 → i ≠ 20 → Y 52 i = I 52 i) (hr : zi_row n (Y 53) (Y 8)) (hg : zi_rng n Y) : zi n Y J F :=
  ⟨zc_sc h.1 (congrFun (hY 5 (by omega) (by omega) (by omega) (by omega)) 2) (hY 6 (by omega) (by omega) (by omega) (by omega)) (hY 7 (by omega) (by omega) (by omega) (by omega)) (h52 1 (by omega) (by omega)) (hY 54 (by omega) (by omega) (by omega) (by omega)), hr,
    zc_txt h.2.2.1 (congrFun (hY 2 (by omega) (by omega) (by omega) (by omega)) 1) (h52 4 (by omega) (by omega)) (hY 3 (by omega) (by omega) (by omega) (by omega)) (hY 55 (by omega) (by omega) (by omega) (by omega)),
    zc_tol h.2.2.2.1 (congrFun (hY 2 (by omega) (by omega) (by omega) (by omega)) 3) (h52 6 (by omega) (by omega)) rfl rfl,
    zc_bow h.2.2.2.2.1 (congrFun (hY 2 (by omega) (by omega) (by omega) (by omega)) 15) (congrFun (hY 2 (by omega) (by omega) (by omega) (by omega)) 16) (h52 43 (by omega) (by omega)) (h52 44 (by omega) (by omega)), hg,
    zc_shl h.2.2.2.2.2.2.1 (h52 45 (by omega) (by omega)) (hY 12 (by omega) (by omega) (by omega) (by omega)) (hY 81 (by omega) (by omega) (by omega) (by omega)) (hY 82 (by omega) (by omega) (by omega) (by omega)) (hY 80 (by omega) (by omega) (by omega) (by omega)) (fun k hk => hY _ (by omega) (by omega) (by omega) (by omega)),
    zc_rul h.2.2.2.2.2.2.2.1 (h52 16 (by omega) (by omega)) (congrFun (hY 28 (by omega) (by omega) (by omega) (by omega)) 3) (congrFun (hY 28 (by omega) (by omega) (by omega) (by omega)) 4) (hY 29 (by omega) (by omega) (by omega) (by omega)) (hY 31 (by omega) (by omega) (by omega) (by omega)) (hY 58 (by omega) (by omega) (by omega) (by omega)) (hY 54 (by omega) (by omega) (by omega) (by omega)), h.2.2.2.2.2.2.2.2⟩
theorem zy_undo {N n : Nat} (hN : 100000 ≤ N) {I : Nat → Nat → Int32} {J : Nat → Nat → Int64} {F : zz_F} (h : zi n I J F) : ∃ v I1 J1 I2 J2, zf_X11_undo N I J = some (v, I1, J1) ∧ zf_X12_undo N I1 J1 = some (v, I2, J2) ∧ zi n I2 J2 F := by
  have hn := h.1.1
  obtain ⟨m, t, hm, ht, h5, h20, h4, hk⟩ := h.2.2.2.2.2.1
  obtain ⟨M, rfl⟩ := zu_one N hN
  by_cases z : m = 0
  · subst z
    have a : zf_X11_undo (M + 1) I J = some (-1, I, J) := by
      rw [zo_X11_undo]
      have e : zf_X6_popInto__8 (M + 1) I J = some (-1, I, J) := by
        rw [zo_X6_popInto__8]
        exact zu_gn (fun w => w h5) rfl
      exact zu_bd e rfl
    have b : zf_X12_undo (M + 1) I J = some (-1, zz_u I 52 7 0, J) := by
      rw [zo_X12_undo]
      exact zu_gn (fun w => w h20) rfl
    exact ⟨_, _, _, _, _, a, b, zi_q0 h⟩
  · obtain ⟨C, ec, c1, c4, c5, c8⟩ := zs_pop hN (I := I) (J := J) ht (by omega) hm h4 h5
    have a : zf_X11_undo (M + 1) I J = some (nI (m - 1), C, J) := by
      rw [zo_X11_undo]
      exact zu_bd ec rfl
    have C52 : C 52 = I 52 := c1 52 (by omega) (by omega)
    have C61 : C 61 = I 61 := c1 61 (by omega) (by omega)
    have b : zf_X12_undo (M + 1) C J = some (nI (m - 1), zh_r (zz_u (zz_u C 52 7 0) 52 20 (nI (m - 1))) 53 (zh_pt (C 53) (fun i => I 61 (18 * (m - 1) + i)) 0 18), J) := by
      rw [zo_X12_undo]
      unfold zb_X12_undo_0
      rw [C52, h20, if_pos (nI_ne0 (by omega) (by omega)), show nI m - 1 = nI (m - 1) by rw [show m = m - 1 + 1 by omega, nI_pred]; rfl]
      have := zm_undo_l (N := M + 1) (I := zz_u (zz_u C 52 7 0) 52 20 (nI (m - 1))) (J := J) (m - 1) (by omega) rfl 18 0 M (by omega) (by omega)
      rw [zh_pt_0, zh_rs, show (zz_u (zz_u C 52 7 0) 52 20 (nI (m - 1))) 61 = I 61 from C61] at this
      exact this
    have ix : (t + 12 - m + (m - 1)) % 12 = (t + 11) % 12 := by omega
    have last := hk (m - 1) (by omega)
    rw [ix] at last
    refine ⟨_, _, _, _, _, a, b, zi_back h (fun a h8 h9 h52 h53 => by rw [zu_rx h53, zu_ux h52, zu_ux h52, c1 a h9 h8]) (fun i h7 h20 => by rw [zu_rx (by omega), zz_un (fun w => h20 w.2), zz_un (fun w => h7 w.2), C52]) ?_ ?_⟩
    · refine zi_row_c hn (fun i hi => ?_) (fun i hi => ?_) last
      · rw [zh_rr]
        have := zh_pt_in (g := C 53) (f := fun i => I 61 (18 * (m - 1) + i)) (b := 0) hi
        rw [Nat.zero_add] at this
        exact this
      · rw [zu_rx (by omega), zu_ux (by omega), zu_ux (by omega)]
        exact c8 i hi
    · refine ⟨m - 1, (t + 11) % 12, by omega, Nat.mod_lt _ (by omega), ?_, rfl, ?_, fun k hq => ?_⟩
      · rw [zu_rx (by omega), zu_ux (by omega), zu_ux (by omega)]; exact c5
      · rw [zu_rx (by omega), zu_ux (by omega), zu_ux (by omega)]; exact c4
      · have ix2 : ((t + 11) % 12 + 12 - (m - 1) + k) % 12 = (t + 12 - m + k) % 12 := by omega
        have lt := Nat.mod_lt (t + 12 - m + k) (show 0 < 12 by omega)
        rw [ix2, zu_rx (show 61 ≠ 53 by omega), zu_ux (show 61 ≠ 52 by omega), zu_ux (show 61 ≠ 52 by omega), C61, zu_rx (by omega), zu_ux (by omega), zu_ux (by omega), c1 _ (by omega) (by omega)]
        exact hk k (by omega)
theorem zu_shelf : ∀ t, t < 2 → (zz_XR 0 none 0 11 t).getD 0 = 26 + t ∧ zz_XR 0 none 0 11 t = some (26 + t) := by decide +kernel
theorem zm_again_l {N : Nat} {I : Nat → Nat → Int32} {J : Nat → Nat → Int64} (c : Nat) (hc : c < 2) : ∀ k s f, s + k = 18 → k < f → zl_X12_again N f 40 (nI c) (nI s) (zh_r I 53 (zh_pt (I 53) (fun i => I 80 (18 * c + i)) 0 s)) J = some (1, zz_u (zh_r I 53 (zh_pt (I 53) (fun i => I 80 (18 * c + i)) 0 18)) 52 20 0, J) := by
  intro k
  induction k with
  | zero =>
    intro s f hs hf
    obtain ⟨m, rfl⟩ : ∃ m, f = m + 1 := ⟨f - 1, by omega⟩
    obtain rfl : s = 18 := by omega
    rw [zo_X12_again_40]
    unfold zb_X12_again_40
    rw [if_pos (by decide)]
  | succ k ih =>
    intro s f hs hf
    obtain ⟨m, rfl⟩ : ∃ m, f = m + 1 := ⟨f - 1, by omega⟩
    refine Eq.trans ?_ (ih (s + 1) m (by omega) (by omega))
    rw [zo_X12_again_40]
    unfold zb_X12_again_40
    rw [if_neg (show ¬ (18 : Int32) ≤ nI s from nI_ge (b := 18) (by omega) (by omega)), show (18 : Int32) * nI c = nI (18 * c) from pk_mul 18 c, nI_add, if_pos (nI_in (show 18 * c + s < 36 by omega) (by omega)), if_pos (nI_in (show s < 18 by omega) (by omega)), nI_clamp (by omega), nI_clamp (by omega), zu_rx (show 80 ≠ 53 by omega), zh_ru, nI_1, ← zh_pt_s]
    rw [Nat.zero_add]
theorem zy_again {N n : Nat} (hN : 100000 ≤ N) {I : Nat → Nat → Int32} {J : Nat → Nat → Int64} {F : zz_F} (h : zi n I J F) (x : Int32) : ∃ v I1 J1 I2 J2, zf_X11_again N x I J = some (v, I1, J1) ∧ zf_X12_again N x I1 J1 = some (v, I2, J2) ∧ zi n I2 J2 F := by
  have hn := h.1.1
  obtain ⟨m, t, hm, ht, h5, h20, h4, hk⟩ := h.2.2.2.2.2.1
  obtain ⟨c, hc, c45, hs⟩ := h.2.2.2.2.2.2.1
  obtain ⟨M, rfl⟩ := zu_one N hN
  rcases zu_bet x 1 (by omega) with q | ⟨v, hv, rfl⟩
  · have no : zv_X6_isShelved I x = 0 := by
      unfold zv_X6_isShelved
      by_cases z : x < 0
      · rw [if_pos z]
      · rcases q with q | q
        · exact absurd q z
        · obtain ⟨j, hj, rfl⟩ := nI_of z
          rw [nI_ltI (by omega) hj] at q
          rw [if_neg z, if_pos (show (2 : Int32) ≤ nI j from nI_le (a := 2) (by omega) hj)]
    have a : zf_X11_again (M + 1) x I J = some (0, I, J) := by
      rw [zo_X11_again]
      exact zu_gn (fun w => w no) rfl
    have b : zf_X12_again (M + 1) x I J = some (0, zz_u I 52 7 0, J) := by
      rw [zo_X12_again]
      exact zu_gd (zu_inN 1 q) rfl
    exact ⟨_, _, _, _, _, a, b, zi_q0 h⟩
  · obtain ⟨s1, s2, ⟨e, he, s3⟩, s4, s5⟩ := hs v (by omega)
    have p2 : ¬ zv_X12_in (nI v) 0 1 = 0 := by rw [show (1 : Int32) = nI 1 from rfl, zu_inY (by omega) hv]; decide
    have sh : zv_X6_isShelved I (nI v) = I 12 v := by
      unfold zv_X6_isShelved
      rw [if_neg (nI_pos (by omega)), if_neg (show ¬ (2 : Int32) ≤ nI v from nI_ge (b := 2) (by omega) (by omega)), nI_clamp (by omega)]
      rcases s1 with w | w <;> rw [w] <;> rfl
    by_cases z : I 12 v = 1
    · obtain ⟨y1, y2⟩ := s4.mp z
      obtain ⟨r1, r2⟩ := zu_shelf v (by omega)
      have a : zf_X11_again (M + 1) (nI v) I J = some (1, zz_u (zz_cpn I 8 (26 + v)) 9 5 0, J) := by
        rw [zo_X11_again]
        unfold zb_X11_again_0
        have eu : zf_X6_unshelve__8 (M + 1) (nI v) I J = some (0, zz_cpn I 8 (26 + v), J) := by
          rw [zo_X6_unshelve__8]
          unfold zb_X6_unshelve__8_0
          rw [sh, z, if_neg (by decide), if_pos (nI_in (show v < 2 by omega) (by omega)), nI_clamp (by omega), r1, if_pos r2, if_pos (by omega)]
        exact zu_gd (by rw [sh, z]; decide) (zu_bd eu rfl)
      have C : ∀ a, a ≠ 8 → a ≠ 9 → zz_u (zz_cpn I 8 (26 + v)) 9 5 0 a = I a := fun a h8 h9 => by rw [zu_ux h9, zu_cpn h8]
      have b : zf_X12_again (M + 1) (nI v) (zz_u (zz_cpn I 8 (26 + v)) 9 5 0) J = some (1, zz_u (zh_r (zz_u (zz_u (zz_cpn I 8 (26 + v)) 9 5 0) 52 7 0) 53 (zh_pt (I 53) (fun i => I 80 (18 * v + i)) 0 18)) 52 20 0, J) := by
        rw [zo_X12_again]
        unfold zb_X12_again_0
        rw [if_neg p2, if_pos (nI_in (show v < 2 by omega) (by omega)), nI_clamp (by omega), C 81 (by omega) (by omega), C 82 (by omega) (by omega), C 52 (by omega) (by omega), y1, if_neg (by decide), if_pos y2]
        have := zm_again_l (N := M + 1) (I := zz_u (zz_u (zz_cpn I 8 (26 + v)) 9 5 0) 52 7 0) (J := J) v (by omega) 18 0 M (by omega) (by omega)
        rw [zh_pt_0, zh_rs] at this
        exact this
      refine ⟨_, _, _, _, _, a, b, zi_back h (fun a h8 h9 h52 h53 => by rw [zu_ux h52, zu_rx h53, zu_ux h52, C a h8 h9]) (fun i h7 h20 => by rw [zz_un (fun w => h20 w.2), zu_rx (by omega), zz_un (fun w => h7 w.2), C 52 (by omega) (by omega)]) ?_ ?_⟩
      · refine zi_row_c hn (fun i hi => ?_) (fun i hi => ?_) (s5 z)
        · rw [zu_ux (by omega), zh_rr]
          have := zh_pt_in (g := I 53) (f := fun i => I 80 (18 * v + i)) (b := 0) hi
          rw [Nat.zero_add] at this
          exact this
        · rw [zu_ux (by omega), zu_rx (by omega), zu_ux (by omega), zu_ux (by omega)]
          exact zu_cpi hi
      · refine ⟨0, t, by omega, ht, ?_, rfl, ?_, fun k hq => by omega⟩
        · rw [zu_ux (by omega), zu_rx (by omega), zu_ux (by omega)]; rfl
        · rw [zu_ux (by omega), zu_rx (by omega), zu_ux (by omega), zz_un (by omega), zu_cpn (by omega)]; exact h4
    · have z0 : I 12 v = 0 := s1.elim id (fun w => absurd w z)
      have a : zf_X11_again (M + 1) (nI v) I J = some (0, I, J) := by
        rw [zo_X11_again]
        exact zu_gn (fun w => w (by rw [sh]; exact z0)) rfl
      have b : zf_X12_again (M + 1) (nI v) I J = some (0, zz_u I 52 7 0, J) := by
        rw [zo_X12_again]
        unfold zb_X12_again_0
        rw [if_neg p2, if_pos (nI_in (show v < 2 by omega) (by omega)), nI_clamp (by omega)]
        rcases s2 with w | w
        · rw [if_pos w]
        · rw [if_neg (by rw [w]; decide), if_neg (fun w2 => z (s4.mpr ⟨w, w2⟩))]
      exact ⟨_, _, _, _, _, a, b, zi_q0 h⟩
