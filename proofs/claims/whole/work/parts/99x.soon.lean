/-! SOONEST, OVER, WITHIN -/
theorem zs_forth {N n : Nat} (hN : 100000 ≤ N) {I : Nat → Nat → Int32} {J : Nat → Nat → Int64} {F : zz_F} (h : zi n I J F) : ∃ X X1 m, zf_X11_readyLoom__28 N I J = some (0, X, J) ∧ zf_X4_fillForth N X J = some (0, X1, J) ∧ zi n X J F ∧ zr_ru m (I 58) X F ∧ zw_L (zw_p n (I 54) (I 8 2) 0) (zw_p n (I 54) (I 8 2) 1) (zw_a n (I 54) (I 8 2) 0) (zw_a n (I 54) (I 8 2) 1) (zw_c m (I 58) (I 54) (I 53 13)) X ∧ zw_L (zw_p n (I 54) (I 8 2) 0) (zw_p n (I 54) (I 8 2) 1) (zw_a n (I 54) (I 8 2) 0) (zw_a n (I 54) (I 8 2) 1) (zw_c m (I 58) (I 54) (I 53 13)) X1 ∧ (∀ i j, i ≤ zw_p n (I 54) (I 8 2) 0 → j ≤ zw_p n (I 54) (I 8 2) 1 → zw_U (zw_a n (I 54) (I 8 2) 0) (zw_a n (I 54) (I 8 2) 1) (zw_c m (I 58) (I 54) (I 53 13)) X1 i j) ∧ (∀ x, x ≠ 44 → X1 x = X x) ∧ (∀ x, x ≠ 28 → x ≠ 30 → x ≠ 31 → x ≠ 41 → x ≠ 42 → x ≠ 43 → X x = I x) := by
  obtain ⟨X, m, e0, hX, ru, hL, fx, f41⟩ := zs_ready hN h
  obtain ⟨X1, g1, g2, g3⟩ := zw_ff hN (J := J) hL
  exact ⟨X, X1, m, e0, g3, hX, ru, hL, zw_L_c hL (by rw [g1 41 (by omega)]) (by rw [g1 41 (by omega)]) (g1 42 (by omega)) (g1 43 (by omega)), g2, g1, fx⟩
/-- the reference lays its weaves behind the class's call -/
theorem zm_laid {N n : Nat} (hN : 100000 ≤ N) {I : Nat → Nat → Int32} {J : Nat → Nat → Int64} {F : zz_F} (h : zi n I J F) {X : Nat → Nat → Int32} {m : Nat} (hX : zi n X J F) (ru : zr_ru m (I 58) X F) (fx : ∀ x, x ≠ 28 → x ≠ 30 → x ≠ 31 → x ≠ 41 → x ≠ 42 → x ≠ 43 → X x = I x) {C P : Nat → Nat → Int32} (cC : ∀ y, y ≠ 2 → y ≠ 41 → y ≠ 44 → y ≠ 45 → C y = X y) (cC2 : ∀ i, i ≠ 3 → C 2 i = X 2 i) (hP : ∀ y, y ≠ 52 → y ≠ 72 → P y = C y) (hP5 : ∀ i, i ≠ 6 → i ≠ 7 → P 52 i = C 52 i) (J' : Nat → Nat → Int64) : ∃ R F2, zf_X12_layWeaves N P J' F = some (0, R, J', F2) ∧ zw_R R (zw_go (zw_p n (I 54) (I 8 2) 0) (zw_p n (I 54) (I 8 2) 1) (zw_a n (I 54) (I 8 2) 0) (zw_a n (I 54) (I 8 2) 1) (zw_c m (I 58) (I 54) (I 53 13)) (P 72 0) (P 72 1) (zw_p n (I 54) (I 8 2) 0 + zw_p n (I 54) (I 8 2) 1) 0 0 12 0 [] 0 0 (zw_a0 (P 71))) ∧ zw_fr P R ∧ ∀ Z J0, (∀ y, y ≠ 52 → Z y = R y) → (∀ i, i ≠ 6 → Z 52 i = R 52 i) → zi_tol Z J0 → zi n Z J0 F2 := by
  have P52 : ∀ i, i ≠ 6 → i ≠ 7 → P 52 i = X 52 i := fun i a b => by rw [hP5 i a b, cC 52 (by omega) (by omega) (by omega) (by omega)]
  have PI : ∀ y, y ≠ 2 → y ≠ 41 → y ≠ 44 → y ≠ 45 → y ≠ 52 → y ≠ 72 → y ≠ 28 → y ≠ 30 → y ≠ 31 → y ≠ 42 → y ≠ 43 → P y = I y := fun y a b c d e f g i j k l => by rw [hP y e f, cC y a b c d, fx y g i j b k l]
  have x52 : X 52 = I 52 := fx 52 (by omega) (by omega) (by omega) (by omega) (by omega) (by omega)
  obtain ⟨R, F2, r1, r2, r3, r4⟩ := zm_lwI hN (P := P) (J' := J') h (m := m) ⟨ru.1, by rw [P52 16 (by omega) (by omega)]; exact ru.2.1, by rw [PI 58 (by omega) (by omega) (by omega) (by omega) (by omega) (by omega) (by omega) (by omega) (by omega) (by omega) (by omega)], ru.2.2.2⟩ (by rw [PI 53 (by omega) (by omega) (by omega) (by omega) (by omega) (by omega) (by omega) (by omega) (by omega) (by omega) (by omega)]) (by rw [PI 54 (by omega) (by omega) (by omega) (by omega) (by omega) (by omega) (by omega) (by omega) (by omega) (by omega) (by omega)]) (by rw [P52 1 (by omega) (by omega), x52])
  exact ⟨R, F2, r1, r2, r3, fun Z J0 z z5 t => zi_told hX (zw_zk cC cC2 hP hP5 r3 z z5) t (zF_ok r4 h.2.2.2.2.2.2.2.2)⟩
theorem zw_R52 {P R : Nat → Nat → Int32} (r : zw_fr P R) {i : Nat} (h1 : i ≠ 9) (h2 : i ≠ 10) (h3 : i ≠ 11) (h4 : i ≠ 12) (h5 : i ≠ 17) (h6 : i ≠ 28) (h7 : i ≠ 29) (h8 : i ≠ 30) (h9 : i ≠ 35) : R 52 i = P 52 i := r.2 i h1 h2 h3 h4 h5 h6 h7 h8 h9
/-- the scenes of a play that come -/
theorem zw_pc {n : Nat} (hn : n ≤ 12) (f : Nat → Int32) (set : Int32) (pl : Nat) : zv_J6_bitCount (zh_P n f set (nI pl)) = nI (zw_p n f set pl) := by
  rw [zu_bc (fun i h1 h2 => by unfold zh_P; exact zu_set_out (by omega) (by omega))]
  unfold zw_p zw_s
  rw [zw_l_ct]
theorem zw_pn {n : Nat} (hn : n ≤ 12) (f : Nat → Int32) (set : Int32) (pl : Nat) : zh_P n f set (nI pl) = 0 ↔ zw_p n f set pl = 0 := by
  constructor
  · intro z
    rcases Nat.eq_zero_or_pos (zw_p n f set pl) with w | w
    · exact w
    · exfalso
      have : zw_a n f set pl 0 ∈ zw_l (bt (zh_P n f set (nI pl))) 12 := zw_l_get w
      have := (zw_l_mem.mp this).2
      rw [z, b_0] at this; cases this
  · intro z
    apply b_ext
    intro i hi
    rw [b_0]
    rcases Nat.lt_or_ge i 12 with w | w
    · cases c : bt (zh_P n f set (nI pl)) i with
      | false => rfl
      | true =>
        have : i ∈ zw_l (bt (zh_P n f set (nI pl))) 12 := zw_l_mem.mpr ⟨w, c⟩
        unfold zw_p zw_s at z
        rw [List.length_eq_zero_iff] at z
        rw [z] at this; cases this
    · unfold zh_P; exact zu_set_out (by omega) (by omega)
theorem zw_ptop {n : Nat} (hn : n ≤ 12) (f : Nat → Int32) (set : Int32) (pl : Nat) (h : 0 < zw_p n f set pl) : 0 < zh_P n f set (nI pl) ∧ 31 - zw_nlz (zh_P n f set (nI pl)) = nI (zw_a n f set pl (zw_p n f set pl - 1)) := by
  have m1 : zw_a n f set pl (zw_p n f set pl - 1) ∈ zw_l (bt (zh_P n f set (nI pl))) 12 := zw_l_get (show zw_p n f set pl - 1 < (zw_s n f set pl).length from by unfold zw_p at h ⊢; omega)
  have m2 := zw_l_mem.mp m1
  refine zw_top (fun i h1 h2 => by unfold zh_P; exact zu_set_out (by omega) (by omega)) m2.1 m2.2 (fun s h1 h2 => ?_)
  cases c : bt (zh_P n f set (nI pl)) s with
  | false => rfl
  | true =>
    exfalso
    obtain ⟨i, hi, e⟩ := zw_l_at (zw_l_mem.mpr ⟨h2, c⟩ : s ∈ zw_l (bt (zh_P n f set (nI pl))) 12)
    have mo := (zw_l_mono (bt (zh_P n f set (nI pl))) 12).2
    have hi' : i < zw_p n f set pl := hi
    rcases (by omega : i < zw_p n f set pl - 1 ∨ i = zw_p n f set pl - 1) with w | w
    · have := mo i (zw_p n f set pl - 1) w (show _ < zw_p n f set pl by omega)
      have : s < zw_a n f set pl (zw_p n f set pl - 1) := by rw [e]; exact this
      omega
    · have : s = zw_a n f set pl (zw_p n f set pl - 1) := by rw [e, w]; rfl
      omega
theorem zy_soonest {N n : Nat} (hN : 100000 ≤ N) {I : Nat → Nat → Int32} {J : Nat → Nat → Int64} {F : zz_F} (h : zi n I J F) (x : Int32) : ∃ v I1 J1 I2 J2 F2, zf_X11_soonest N x I J = some (v, I1, J1) ∧ zf_X12_soonest N x I1 J1 F = some (v, I2, J2, F2) ∧ zi n I2 J2 F2 := by
  have hn := h.1.1
  rcases zu_bet x 1 (by omega) with qq | ⟨pl, hpl, rfl⟩
  · obtain ⟨M, rfl⟩ := zu_one N hN
    have a : zf_X11_soonest (M + 1) x I J = some (-1, I, J) := by
      rw [zo_X11_soonest]
      exact zu_gn (fun w => w (zs_isPlayN qq)) rfl
    have b : zf_X12_soonest (M + 1) x I J F = some (-1, zz_u I 52 7 0, J, F) := by
      rw [zo_X12_soonest]
      exact zu_gn (fun w => w (zu_inN 1 qq)) rfl
    exact ⟨_, _, _, _, _, _, a, b, zi_q0 h⟩
  have ip : ¬ zv_X11_isPlay (nI pl) = 0 := by rw [zs_isPlayY hpl]; decide
  have im : ¬ zv_X12_isPlay (nI pl) = 0 := by
    show ¬ zv_X12_in (nI pl) 0 (nI 1) = 0
    rw [zu_inY (by omega) hpl]; decide
  obtain ⟨X, X1, m, e0, e1, hX, ru, hL, hL1, hU, g1, fx⟩ := zs_forth hN h
  have pq := hL.1
  have hsz := zs_sizeOf hL hpl
  have hH := zw_HH hn (I 54) (I 8 2)
  have x52 : X 52 = I 52 := fx 52 (by omega) (by omega) (by omega) (by omega) (by omega) (by omega)
  have x53 : X 53 = I 53 := fx 53 (by omega) (by omega) (by omega) (by omega) (by omega) (by omega)
  have x54 : X 54 = I 54 := fx 54 (by omega) (by omega) (by omega) (by omega) (by omega) (by omega)
  have zz : (if pl = 0 then zw_p n (I 54) (I 8 2) 0 else zw_p n (I 54) (I 8 2) 1) = zw_p n (I 54) (I 8 2) pl := by
    rcases (by omega : pl = 0 ∨ pl = 1) with rfl | rfl <;> rfl
  have aa : ∀ i, (if pl = 0 then zw_a n (I 54) (I 8 2) 0 i else zw_a n (I 54) (I 8 2) 1 i) = zw_a n (I 54) (I 8 2) pl i := fun i => by
    rcases (by omega : pl = 0 ∨ pl = 1) with rfl | rfl <;> rfl
  have pb : zw_p n (I 54) (I 8 2) pl ≤ 12 := by rw [← zz]; split <;> omega
  rw [zz] at hsz
  have pn := zw_pn hn (I 54) (I 8 2) pl
  have pc := zw_pc hn (I 54) (I 8 2) pl
  have wb : ∀ (P : Nat → Nat → Int32) (J' : Nat → Nat → Int64), P 52 1 = I 52 1 → P 53 = I 53 → zf_X12_whereBits N 0 P J' = some (I 8 2, P, J') := fun P J' a b => by
    rw [zm_where hN hn (by rw [a]; exact h.1.2.1), b, h.2.1.2.2.1]
    rfl
  have ob : ∀ (P : Nat → Nat → Int32) (J' : Nat → Nat → Int64), P 52 1 = I 52 1 → P 54 = I 54 → zf_X12_ofPlay N (I 8 2) (nI pl) P J' = some (zh_P n (I 54) (I 8 2) (nI pl), P, J') := fun P J' a b => by
    rw [zm_ofPlay hN hn (by rw [a]; exact h.1.2.1), b]
  by_cases c : zw_p n (I 54) (I 8 2) pl = 0
  · have A1 : zf_X11_soonest N (nI pl) I J = some (0, zz_u X 2 3 1, zz_u J 4 0 0) := by
      obtain ⟨M, rfl⟩ := zu_one N hN
      rw [zo_X11_soonest]
      refine zu_gd ip (zu_bd e0 (zu_gn (fun w => w (by rw [hsz, c]; rfl)) ?_))
      dsimp only
      rw [zu_t1, zu_x1]
    have B1 : zf_X12_soonest N (nI pl) (zz_u X 2 3 1) (zz_u J 4 0 0) F = some (0, zz_u (zz_u (zz_u X 2 3 1) 52 7 0) 52 6 1, zz_u (zz_u J 4 0 0) 56 0 0, F) := by
      have w1 := wb (zz_u (zz_u X 2 3 1) 52 7 0) (zz_u J 4 0 0) (by rw [zz_un (by omega), zu_ux (by omega), x52]) (by rw [zu_ux (by omega), zu_ux (by omega), x53])
      have w2 := ob (zz_u (zz_u X 2 3 1) 52 7 0) (zz_u J 4 0 0) (by rw [zz_un (by omega), zu_ux (by omega), x52]) (by rw [zu_ux (by omega), zu_ux (by omega), x54])
      obtain ⟨M, rfl⟩ := zu_one N hN
      rw [zo_X12_soonest]
      unfold zb_X12_soonest_0
      refine zu_gd im (zu_bd w1 (zu_bd w2 (zu_gn (fun w => w (pn.mpr c)) (zu_gd zu_20_0 ?_))))
      rw [zu_m1, zu_y1]
    exact ⟨_, _, _, _, _, _, A1, B1, zi_told hX (zk_u rfl (zk_u rfl (zk_u rfl (zk_refl X)))) (zi_tol1 (by rw [zu_ux (by omega), zu_ux (by omega)]; exact zz_us _ _ _ _) (zz_us _ _ _ _) rfl) hX.2.2.2.2.2.2.2.2⟩
  have cp : 0 < zw_p n (I 54) (I 8 2) pl := Nat.pos_of_ne_zero c
  have tp := zw_ptop hn (I 54) (I 8 2) pl cp
  have aok := (zw_a_ok hn (f := I 54) (set := I 8 2) (pl := pl) (i := zw_p n (I 54) (I 8 2) pl - 1) (by omega)).1
  have sw := zs_sw hN (J := J) hL1 hU hpl (own := zw_p n (I 54) (I 8 2) pl) (by rw [zz]; omega)
  have ov : ∀ (Xb Yb : Int32) (ah : Nat → Int32), _ := fun Xb Yb ah => zw_ovE (X := Xb) (Y := Yb) (ah := ah) hH (zw_W hL) rfl hpl (i := zw_p n (I 54) (I 8 2) pl - 1) (by rw [zz]; omega) (aa _).symm rfl
  rw [show zw_p n (I 54) (I 8 2) pl - 1 + 1 = zw_p n (I 54) (I 8 2) pl by omega] at ov
  have ov0 := ov 0 0 (fun _ => 0)
  have fo := zs_fo hN (J := J) hL1 hU hpl (own := zw_p n (I 54) (I 8 2) pl) (by rw [zz]; omega) (v := zw_mn (zw_rw (zw_a n (I 54) (I 8 2) 0) (zw_a n (I 54) (I 8 2) 1) (zw_c m (I 58) (I 54) (I 53 13)) pl (zw_p n (I 54) (I 8 2) pl)) ((if pl = 0 then zw_p n (I 54) (I 8 2) 1 else zw_p n (I 54) (I 8 2) 0) + 1)) (by have := ov0.2.2.1; omega) ov0.2.2.2.1
  have vb := ov0.2.2.1
  have tb := ov0.2.2.2.2
  have Eb : (if pl = 0 then zw_p n (I 54) (I 8 2) 1 else zw_p n (I 54) (I 8 2) 0) ≤ 12 := by split <;> omega
  have ov' := fun Xb Yb ah => (⟨(ov Xb Yb ah).1, (ov Xb Yb ah).2.1⟩ : _ ∧ _)
  clear ov ov0
  generalize zw_mn (zw_rw (zw_a n (I 54) (I 8 2) 0) (zw_a n (I 54) (I 8 2) 1) (zw_c m (I 58) (I 54) (I 53 13)) pl (zw_p n (I 54) (I 8 2) pl)) ((if pl = 0 then zw_p n (I 54) (I 8 2) 1 else zw_p n (I 54) (I 8 2) 0) + 1) = V at *
  generalize zw_ft (zw_rw (zw_a n (I 54) (I 8 2) 0) (zw_a n (I 54) (I 8 2) 1) (zw_c m (I 58) (I 54) (I 53 13)) pl (zw_p n (I 54) (I 8 2) pl)) V ((if pl = 0 then zw_p n (I 54) (I 8 2) 1 else zw_p n (I 54) (I 8 2) 0) + 1) 0 = t at *
  have A1 : zf_X11_soonest N (nI pl) I J = some (nI V, zz_u X1 2 3 1, zz_u J 4 0 (nI t).toInt64) := by
    obtain ⟨M, rfl⟩ := zu_one N hN
    rw [zo_X11_soonest]
    refine zu_gd ip (zu_bd e0 (zu_gd (fun w => c ?_) (zu_bd e1 (zu_bd (r := (nI V, X1, J)) ?_ (zu_bd (r := (nI t, X1, J)) ?_ ?_)))))
    · rw [hsz] at w
      exact (nI_eq (b := 0) (by omega) (by omega)).mp w
    · dsimp only
      rw [hsz]; exact sw
    · dsimp only
      rw [hsz]; exact fo
    · dsimp only
      rw [zu_t1, zu_x1]
  have cC : ∀ y, y ≠ 2 → y ≠ 41 → y ≠ 44 → y ≠ 45 → zz_u X1 2 3 1 y = X y := fun y a b c d => by rw [zu_ux a, g1 y c]
  have cC2 : ∀ i, i ≠ 3 → zz_u X1 2 3 1 2 i = X 2 i := fun i hi => by rw [zz_un (fun w => hi w.2), g1 2 (by omega)]
  have C23 : zz_u X1 2 3 1 2 3 = nI 1 := zz_us _ _ _ _
  generalize zz_u X1 2 3 1 = C at *
  obtain ⟨R, F2, r1, r2, r3, r4⟩ := zm_laid hN h hX ru fx cC cC2 (P := zz_u (zz_u C 52 7 0) 52 6 0) (fun y a _ => by rw [zu_ux a, zu_ux a]) (fun i a b => by rw [zz_un (fun w => a w.2), zz_un (fun w => b w.2)]) (zz_u J 4 0 (nI t).toInt64)
  have R6 : R 52 6 = 0 := (zw_R52 r3 (by omega) (by omega) (by omega) (by omega) (by omega) (by omega) (by omega) (by omega) (by omega)).trans (zz_us _ _ _ _)
  obtain ⟨o1, o2⟩ := ov' (zz_u (zz_u C 52 7 0) 52 6 0 72 0) (zz_u (zz_u C 52 7 0) 52 6 0 72 1) (zz_u (zz_u C 52 7 0) 52 6 0 71)
  have R7 := r2.2.2.2.2.2.2.2.2.2 (zw_a n (I 54) (I 8 2) pl (zw_p n (I 54) (I 8 2) pl - 1)) (by omega)
  rw [o1, o2] at R7
  have Bq : zf_X12_soonest N (nI pl) C (zz_u J 4 0 (nI t).toInt64) F = some (nI V, zz_u R 52 6 1, zz_u (zz_u J 4 0 (nI t).toInt64) 56 0 (nI t).toInt64, F2) := by
    have w1 := wb (zz_u C 52 7 0) (zz_u J 4 0 (nI t).toInt64) (by rw [zz_un (by omega), cC 52 (by omega) (by omega) (by omega) (by omega), x52]) (by rw [zu_ux (by omega), cC 53 (by omega) (by omega) (by omega) (by omega), x53])
    have w2 := ob (zz_u C 52 7 0) (zz_u J 4 0 (nI t).toInt64) (by rw [zz_un (by omega), cC 52 (by omega) (by omega) (by omega) (by omega), x52]) (by rw [zu_ux (by omega), cC 54 (by omega) (by omega) (by omega) (by omega), x54])
    have w3 := zw_nlzE hN tp.1 (I := R) (J := zz_u J 4 0 (nI t).toInt64)
    have ew : ∀ v : Int64, zw_X12_tell R (zz_u J 4 0 (nI t).toInt64) v = zz_u R 52 6 1 := fun v => by
      show zz_u R 52 6 (R 52 6 + 1) = _
      rw [R6]; rfl
    have ex : ∀ v : Int64, zx_X12_tell R (zz_u J 4 0 (nI t).toInt64) v = zz_u (zz_u J 4 0 (nI t).toInt64) 56 0 v := fun v => by
      show zz_u _ 56 (R 52 6).toNatClampNeg v = _
      rw [R6]; rfl
    obtain ⟨M, rfl⟩ := zu_one N hN
    rw [zo_X12_soonest]
    unfold zb_X12_soonest_0
    refine zu_gd im (zu_bd w1 (zu_bd w2 (zu_gd (fun w => c (pn.mp w)) (zu_bd r1 (zu_bd w3 ?_)))))
    dsimp only
    rw [tp.2, if_pos (nI_in (by omega) (by omega)), if_pos (show ¬ (R 52 6 < 0 ∨ 20 ≤ (R 52 6).toNatClampNeg) by rw [R6]; exact zu_20_0), ew, ex, nI_clamp (by omega), R7.2, pc]
    show some (zz_u R 52 6 1 70 (zw_a n (I 54) (I 8 2) pl (zw_p n (I 54) (I 8 2) pl - 1)), _) = _
    rw [zu_ux (by omega), R7.1, show nI (zw_p n (I 54) (I 8 2) pl - 1 + t) - nI (zw_p n (I 54) (I 8 2) pl) + 1 = nI t from ?_]
    have : nI (zw_p n (I 54) (I 8 2) pl - 1 + t) + 1 = nI (zw_p n (I 54) (I 8 2) pl + t) := by
      rw [nI_1]; congr 1; omega
    rw [Int32.sub_eq_add_neg, Int32.add_assoc, Int32.add_comm (-_) 1, ← Int32.add_assoc, this, ← Int32.sub_eq_add_neg, pk_sub (by omega)]
    congr 1; omega
  refine ⟨_, _, _, _, _, _, A1, Bq, r4 _ _ (fun y a => zu_ux a) (fun i a => zz_un (fun w => a w.2)) (zi_tol1 ?_ (zz_us _ _ _ _) rfl)⟩
  rw [zu_ux (by omega), zw_fr2 r3, zu_ux (by omega), zu_ux (by omega)]
  exact C23
