theorem zw_msk : ∀ s, s < 12 → ∀ i, i < 32 → bt (((1 : Int32) <<< (nI s &&& 31)) - 1) i = decide (i < s) := by decide +kernel
theorem zw_idx {P : Nat → Bool} {s : Nat} (h : P s = true) : ∀ k, s < k → (zw_l P k).getD (zw_l P s).length 0 = s ∧ (zw_l P s).length < (zw_l P k).length := by
  intro k
  induction k with
  | zero => intro w; omega
  | succ k ih =>
    intro w
    rw [zw_l_s]
    by_cases e : s = k
    · subst e
      rw [if_pos h, zw_getA, if_neg (by omega), if_pos rfl, List.length_append, List.length_singleton]
      exact ⟨rfl, by omega⟩
    · obtain ⟨a, b⟩ := ih (by omega)
      by_cases c : P k = true
      · rw [if_pos c, zw_getA, if_pos b, List.length_append]
        exact ⟨a, by omega⟩
      · rw [if_neg c]; exact ⟨a, b⟩
theorem zw_bcm {x : Int32} (h : ∀ i, 12 ≤ i → i < 32 → bt x i = false) {s : Nat} (hs : s < 12) : zv_J6_bitCount (x &&& (((1 : Int32) <<< (nI s &&& 31)) - 1)) = nI (zw_l (bt x) s).length := by
  rw [zu_bc (fun i h1 h2 => by rw [b_and, h i h1 h2]; rfl), zw_l_ct]
  congr 1
  rw [zu_ct_more (show s ≤ 12 by omega) (fun i h1 h2 => by rw [b_and, zw_msk s hs i (by omega), decide_eq_false (by omega), Bool.and_false])]
  exact zu_ct_cong (fun i hi => by rw [b_and, zw_msk s hs i (by omega), decide_eq_true (by omega), Bool.and_true])
theorem zy_over {N n : Nat} (hN : 100000 ≤ N) {I : Nat → Nat → Int32} {J : Nat → Nat → Int64} {F : zz_F} (h : zi n I J F) (x : Int32) : ∃ v I1 J1 I2 J2 F2, zf_X11_over N x I J = some (v, I1, J1) ∧ zf_X12_over N x I1 J1 F = some (v, I2, J2, F2) ∧ zi n I2 J2 F2 := by
  have hn := h.1.1
  rcases zu_scn h.1 x with ⟨q1, q2⟩ | ⟨s, hs, rfl, q1, q2⟩
  · obtain ⟨M, rfl⟩ := zu_one N hN
    have a : zf_X11_over (M + 1) x I J = some (-1, I, J) := by
      rw [zo_X11_over]
      exact zu_gn (fun w => w q1) rfl
    have b : zf_X12_over (M + 1) x I J F = some (-1, zz_u I 52 7 0, J, F) := by
      rw [zo_X12_over]
      exact zu_gn (fun w => w (q2 _ rfl)) rfl
    exact ⟨_, _, _, _, _, _, a, b, zi_q0 h⟩
  have hb : bt (I 8 2) s = decide (I 53 s = 0) := by
    rw [h.2.1.2.2.1]
    exact zu_set_at (by omega) hs
  have ha : ¬ zv_X9_has I (nI s) = 0 := by rw [q1]; decide
  have sc : ∀ X : Nat → Nat → Int32, X 52 1 = I 52 1 → ¬ zv_X12_isScene X (nI s) = 0 := fun X hX => by rw [q2 X hX]; decide
  by_cases c : I 53 s = 0
  case neg =>
    obtain ⟨M, rfl⟩ := zu_one N hN
    have a : zf_X11_over (M + 1) (nI s) I J = some (-2, I, J) := by
      rw [zo_X11_over]
      exact zu_gd ha (zu_gn (fun w => w (by rw [zu_bz (by omega), hb]; simp [c])) rfl)
    have b : zf_X12_over (M + 1) (nI s) I J F = some (-2, zz_u I 52 7 0, J, F) := by
      rw [zo_X12_over]
      unfold zb_X12_over_0
      refine zu_gd (sc _ rfl) (zu_gd (nI_in (show s < 18 by omega) (by omega)) ?_)
      rw [nI_clamp (by omega)]
      exact zu_gn c rfl
    exact ⟨_, _, _, _, _, _, a, b, zi_q0 h⟩
  have c1 : ¬ (I 8 2 &&& ((1 : Int32) <<< (nI s &&& 31)) = 0) := by rw [zu_bz (by omega), hb]; simp [c]
  obtain ⟨⟨pl, hpl, e⟩, _⟩ := h.1.2.2.2.2.1 s hs
  have e : I 54 (7 * s) = nI pl := e
  have hpl : pl ≤ 1 := by omega
  obtain ⟨X, X1, m, e0, e1, hX, ru, hL, hL1, hU, g1, fx⟩ := zs_forth hN h
  have pq := hL.1
  have hH := zw_HH hn (I 54) (I 8 2)
  have x52 : X 52 = I 52 := fx 52 (by omega) (by omega) (by omega) (by omega) (by omega) (by omega)
  have x53 : X 53 = I 53 := fx 53 (by omega) (by omega) (by omega) (by omega) (by omega) (by omega)
  have X6 : X1 6 = I 6 := (g1 6 (by omega)).trans (fx 6 (by omega) (by omega) (by omega) (by omega) (by omega) (by omega))
  have X7 : X1 7 = I 7 := (g1 7 (by omega)).trans (fx 7 (by omega) (by omega) (by omega) (by omega) (by omega) (by omega))
  have X8 : X1 8 = I 8 := (g1 8 (by omega)).trans (fx 8 (by omega) (by omega) (by omega) (by omega) (by omega) (by omega))
  have zz : (if pl = 0 then zw_p n (I 54) (I 8 2) 0 else zw_p n (I 54) (I 8 2) 1) = zw_p n (I 54) (I 8 2) pl := by
    rcases (by omega : pl = 0 ∨ pl = 1) with rfl | rfl <;> rfl
  have aa : ∀ i, (if pl = 0 then zw_a n (I 54) (I 8 2) 0 i else zw_a n (I 54) (I 8 2) 1 i) = zw_a n (I 54) (I 8 2) pl i := fun i => by
    rcases (by omega : pl = 0 ∨ pl = 1) with rfl | rfl <;> rfl
  have pb : zw_p n (I 54) (I 8 2) pl ≤ 12 := by rw [← zz]; split <;> omega
  have zf : zz_f X1 (nI s) 0 = nI pl := by
    rw [zu_cf0 (by omega), X6, h.1.2.2.2.1 _ (by omega)]; exact e
  have so : zv_X9_scenesOf X1 = zv_X9_scenesOf I := by
    funext a
    unfold zv_X9_scenesOf
    rw [X7]
  have bs : bt (zh_P n (I 54) (I 8 2) (nI pl)) s = true := by
    unfold zh_P
    rw [zu_set_at (by omega) hs, hb, e]; simp [c]
  obtain ⟨d1, d2⟩ := zw_idx bs 12 (by omega)
  have bc : zv_J6_bitCount (((X1 8 2) &&& (zv_X9_scenesOf X1 (nI pl))) &&& (((1 : Int32) <<< (nI s &&& 31)) - 1)) = nI (zw_l (bt (zh_P n (I 54) (I 8 2) (nI pl))) s).length := by
    rw [so, X8, zs_ofp h.1 _ hpl]
    exact zw_bcm (fun i h1 h2 => by unfold zh_P; exact zu_set_out (by omega) (by omega)) (by omega)
  have d1 : zw_a n (I 54) (I 8 2) pl (zw_l (bt (zh_P n (I 54) (I 8 2) (nI pl))) s).length = s := d1
  have d2 : (zw_l (bt (zh_P n (I 54) (I 8 2) (nI pl))) s).length < zw_p n (I 54) (I 8 2) pl := d2
  generalize (zw_l (bt (zh_P n (I 54) (I 8 2) (nI pl))) s).length = i at *
  have sw := zs_sw hN (J := J) hL1 hU hpl (own := i + 1) (by rw [zz]; omega)
  have ov : ∀ (Xb Yb : Int32) (ah : Nat → Int32), _ := fun Xb Yb ah => zw_ovE (X := Xb) (Y := Yb) (ah := ah) hH (zw_W hL) rfl hpl (i := i) (s := s) (by rw [zz]; omega) ((aa _).trans d1).symm rfl
  have ov0 := ov 0 0 (fun _ => 0)
  have fo := zs_fo hN (J := J) hL1 hU hpl (own := i + 1) (by rw [zz]; omega) (v := zw_mn (zw_rw (zw_a n (I 54) (I 8 2) 0) (zw_a n (I 54) (I 8 2) 1) (zw_c m (I 58) (I 54) (I 53 13)) pl (i + 1)) ((if pl = 0 then zw_p n (I 54) (I 8 2) 1 else zw_p n (I 54) (I 8 2) 0) + 1)) (by have := ov0.2.2.1; omega) ov0.2.2.2.1
  have ov' := fun Xb Yb ah => (⟨(ov Xb Yb ah).1, (ov Xb Yb ah).2.1⟩ : _ ∧ _)
  clear ov ov0
  generalize zw_mn (zw_rw (zw_a n (I 54) (I 8 2) 0) (zw_a n (I 54) (I 8 2) 1) (zw_c m (I 58) (I 54) (I 53 13)) pl (i + 1)) ((if pl = 0 then zw_p n (I 54) (I 8 2) 1 else zw_p n (I 54) (I 8 2) 0) + 1) = V at *
  generalize zw_ft (zw_rw (zw_a n (I 54) (I 8 2) 0) (zw_a n (I 54) (I 8 2) 1) (zw_c m (I 58) (I 54) (I 53 13)) pl (i + 1)) V ((if pl = 0 then zw_p n (I 54) (I 8 2) 1 else zw_p n (I 54) (I 8 2) 0) + 1) 0 = t at *
  have A1 : zf_X11_over N (nI s) I J = some (nI V, zz_u X1 2 3 1, zz_u J 4 0 (nI (i + t)).toInt64) := by
    obtain ⟨M, rfl⟩ := zu_one N hN
    rw [zo_X11_over]
    refine zu_gd ha (zu_gd c1 (zu_bd e0 (zu_bd e1 (zu_bd (r := (nI V, X1, J)) ?_ (zu_bd (r := (nI t, X1, J)) ?_ ?_)))))
    · dsimp only
      rw [zf, bc, nI_1]; exact sw
    · dsimp only
      rw [zf, bc, nI_1]; exact fo
    · dsimp only
      rw [zf, bc, nI_add, zu_t1, zu_x1]
  have cC : ∀ y, y ≠ 2 → y ≠ 41 → y ≠ 44 → y ≠ 45 → zz_u X1 2 3 1 y = X y := fun y a b c d => by rw [zu_ux a, g1 y c]
  have cC2 : ∀ i, i ≠ 3 → zz_u X1 2 3 1 2 i = X 2 i := fun i hi => by rw [zz_un (fun w => hi w.2), g1 2 (by omega)]
  have C23 : zz_u X1 2 3 1 2 3 = nI 1 := zz_us _ _ _ _
  generalize zz_u X1 2 3 1 = C at *
  obtain ⟨R, F2, r1, r2, r3, r4⟩ := zm_laid hN h hX ru fx cC cC2 (P := zz_u C 52 7 0) (fun y a _ => zu_ux a) (fun i a b => zz_un (fun w => b w.2)) (zz_u J 4 0 (nI (i + t)).toInt64)
  obtain ⟨o1, o2⟩ := ov' (zz_u C 52 7 0 72 0) (zz_u C 52 7 0 72 1) (zz_u C 52 7 0 71)
  have R7 := r2.2.2.2.2.2.2.2.2.2 s (by omega)
  rw [o1, o2] at R7
  have Bq : zf_X12_over N (nI s) C (zz_u J 4 0 (nI (i + t)).toInt64) F = some (nI V, zz_u R 52 6 1, zz_u (zz_u J 4 0 (nI (i + t)).toInt64) 56 0 (nI (i + t)).toInt64, F2) := by
    have c52 : zz_u C 52 7 0 52 1 = I 52 1 := by rw [zz_un (by omega), cC 52 (by omega) (by omega) (by omega) (by omega), x52]
    have c53 : C 53 s = 0 := by rw [cC 53 (by omega) (by omega) (by omega) (by omega), x53]; exact c
    obtain ⟨M, rfl⟩ := zu_one N hN
    rw [zo_X12_over]
    unfold zb_X12_over_0
    refine zu_gd (sc _ c52) (zu_gd (nI_in (show s < 18 by omega) (by omega)) ?_)
    rw [nI_clamp (by omega)]
    refine zu_gd c53 (zu_bd r1 (zu_gd (show ¬ (nI s < 0 ∨ 12 ≤ s) from fun w => w.elim (nI_pos (by omega)) (by omega)) (zu_gd zu_20_0 ?_)))
    dsimp only
    rw [R7.2, zu_m1, zu_y1, zu_ux (by omega), R7.1]
  refine ⟨_, _, _, _, _, _, A1, Bq, r4 _ _ (fun y a => zu_ux a) (fun i a => zz_un (fun w => a w.2)) (zi_tol1 ?_ (zz_us _ _ _ _) rfl)⟩
  rw [zu_ux (by omega), zw_fr2 r3, zu_ux (by omega)]
  exact C23
/-! within -/
def zw_wl (V : Nat → Nat) (x : Nat) : Nat → Nat
  | 0 => 0
  | k + 1 => if V (k + 1) ≤ x then k + 1 else zw_wl V x k
theorem zw_wl_s (V : Nat → Nat) (x k : Nat) : zw_wl V x (k + 1) = if V (k + 1) ≤ x then k + 1 else zw_wl V x k := rfl
theorem zw_wl_le (V : Nat → Nat) (x : Nat) : ∀ k, zw_wl V x k ≤ k
  | 0 => Nat.le_refl _
  | k + 1 => by
    have := zw_wl_le V x k
    rw [zw_wl_s]
    split <;> omega
theorem zs_wi {N : Nat} (hN : 100000 ≤ N) {p q : Nat} {A B : Nat → Nat} {W : Nat → Nat → Nat} {X : Nat → Nat → Int32} {J : Nat → Nat → Int64} (h : zw_L p q A B W X) (hU : ∀ i j, i ≤ p → j ≤ q → zw_U A B W X i j) {x : Nat} (hx : x ≤ 199) {V : Nat → Nat} (hV : V = fun k => zw_mn (zw_sf p q A B W k) (p + 1)) : ∀ r k u, k + r = p + q → r < u → zl_X11_within N u 31 (nI x) (nI (zw_wl V x k)) (nI (V (zw_wl V x k))) (nI (k + 1)) X J = some (nI (zw_wl V x (p + q)), zz_u X 2 3 1, zz_u J 4 0 (nI (V (zw_wl V x (p + q)))).toInt64) := by
  have pq := h.1
  have s0 : zv_X4_sizeOf X 0 = nI p := zs_sizeOf h (pl := 0) (by omega)
  have s1 : zv_X4_sizeOf X 1 = nI q := zs_sizeOf h (pl := 1) (by omega)
  intro r
  induction r with
  | zero =>
    intro k u hk hu
    obtain ⟨v, rfl⟩ : ∃ v, u = v + 1 := ⟨u - 1, by omega⟩
    obtain rfl : k = p + q := by omega
    rw [zo_X11_within_31]
    unfold zb_X11_within_31
    rw [s0, s1, nI_add, if_pos (nI_lt (by omega) (by omega)), zu_t1, zu_x1]
  | succ r ih =>
    intro k u hk hu
    obtain ⟨v, rfl⟩ : ∃ v, u = v + 1 := ⟨u - 1, by omega⟩
    have so := zs_so hN (J := J) h hU (k := k + 1) (by omega)
    have vb : V (k + 1) ≤ 1000000 := by rw [hV]; exact zw_mn_b _
    rw [show zw_mn (zw_sf p q A B W (k + 1)) (p + 1) = V (k + 1) by rw [hV]] at so
    have nx := ih (k + 1) v (by omega) (by omega)
    rw [zw_wl_s] at nx
    rw [zo_X11_within_31]
    unfold zb_X11_within_31
    rw [s0, s1, nI_add, if_neg (nI_nlt (by omega) (by omega)), so, Option.bind_some]
    dsimp only
    rw [nI_1]
    by_cases c : V (k + 1) ≤ x
    · rw [if_neg (nI_nlt c (by omega))]
      rw [if_pos c] at nx
      exact nx
    · rw [if_pos (nI_lt (by omega) (by omega))]
      rw [if_neg c] at nx
      exact nx
theorem zm_wi {N : Nat} {R : Nat → Nat → Int32} {J : Nat → Nat → Int64} {F : zz_F} {x : Nat} (hx : x ≤ 199) {V : Nat → Nat} (hV0 : V 0 = 0) (hVb : ∀ k, V k ≤ 1000000) (hR : ∀ k, k < 13 → R 68 k = nI (V k)) : ∀ k u, k < 13 → k < u → zl_X12_within N u 31 (nI x) (nI k) R J F = some (nI (zw_wl V x k), zz_u R 52 6 1, zz_u J 56 0 (nI (V (zw_wl V x k))).toInt64, F) := by
  intro k
  induction k with
  | zero =>
    intro u h1 hu
    obtain ⟨v, rfl⟩ : ∃ v, u = v + 1 := ⟨u - 1, by omega⟩
    rw [zo_X12_within_31]
    unfold zb_X12_within_31
    rw [if_pos (nI_in h1 (by omega)), nI_clamp (by omega), hR 0 (by omega), if_pos (nI_le (by omega) (by omega))]
    refine zu_gd zu_20_0 ?_
    rw [zu_m1, zu_y1]; rfl
  | succ k ih =>
    intro u h1 hu
    obtain ⟨v, rfl⟩ : ∃ v, u = v + 1 := ⟨u - 1, by omega⟩
    have := hVb (k + 1)
    rw [zo_X12_within_31]
    unfold zb_X12_within_31
    rw [if_pos (nI_in h1 (by omega)), nI_clamp (by omega), hR (k + 1) h1, zw_wl_s]
    by_cases c : V (k + 1) ≤ x
    · rw [if_pos (nI_le c (by omega)), if_pos c]
      refine zu_gd zu_20_0 ?_
      rw [zu_m1, zu_y1]
    · rw [if_neg (nI_ge (by omega) (by omega)), if_neg c, show nI (k + 1) + -1 = nI k from ?_]
      · exact ih v (by omega) (by omega)
      · rw [← Int32.sub_eq_add_neg, nI_pred]
theorem zy_within {N n : Nat} (hN : 100000 ≤ N) {I : Nat → Nat → Int32} {J : Nat → Nat → Int64} {F : zz_F} (h : zi n I J F) (x : Int32) : ∃ v I1 J1 I2 J2 F2, zf_X11_within N x I J = some (v, I1, J1) ∧ zf_X12_within N x I1 J1 F = some (v, I2, J2, F2) ∧ zi n I2 J2 F2 := by
  have hn := h.1.1
  rcases zu_bet x 199 (by omega) with qq | ⟨x, hx, rfl⟩
  · obtain ⟨M, rfl⟩ := zu_one N hN
    have a : zf_X11_within (M + 1) x I J = some (-1, I, J) := by
      rw [zo_X11_within]
      refine zu_gn (fun w => w ?_) rfl
      unfold zv_X11_isHour
      rcases qq with w | w
      · rw [if_pos w]
      · by_cases z : x < 0
        · rw [if_pos z]
        · rw [if_neg z]; exact if_pos w
    have b : zf_X12_within (M + 1) x I J F = some (-1, zz_u I 52 7 0, J, F) := by
      rw [zo_X12_within]
      exact zu_gn (fun w => w (zu_inN 199 qq)) rfl
    exact ⟨_, _, _, _, _, _, a, b, zi_q0 h⟩
  have ih' : ¬ zv_X11_isHour (nI x) = 0 := by
    unfold zv_X11_isHour
    rw [if_neg (nI_pos (by omega)), if_neg (show ¬ (199 : Int32) < nI x from nI_nlt (a := 199) hx (by omega))]; decide
  have im : ¬ zv_X12_in (nI x) 0 199 = 0 := by
    show ¬ zv_X12_in (nI x) 0 (nI 199) = 0
    rw [zu_inY (by omega) hx]; decide
  obtain ⟨X, X1, m, e0, e1, hX, ru, hL, hL1, hU, g1, fx⟩ := zs_forth hN h
  have pq := hL.1
  have x52 : X 52 = I 52 := fx 52 (by omega) (by omega) (by omega) (by omega) (by omega) (by omega)
  have x53 : X 53 = I 53 := fx 53 (by omega) (by omega) (by omega) (by omega) (by omega) (by omega)
  have bc : zv_J6_bitCount (zh_W n (I 53) 0) = nI (zw_p n (I 54) (I 8 2) 0 + zw_p n (I 54) (I 8 2) 1) := by
    have := zw_bc hn h.1.2.2.2.2.1 (zw_wh h)
    rw [h.2.1.2.2.1] at this
    rw [h.2.1.2.2.1]
    exact this
  have fw : ∀ (Xb Yb : Int32) (ah : Nat → Int32) (k : Nat), _ := fun Xb Yb ah k => zw_fwE (X := Xb) (Y := Yb) (ah := ah) (zw_W hL) pq k
  generalize hWW : zw_c m (I 58) (I 54) (I 53 13) = W at *
  generalize hp : zw_p n (I 54) (I 8 2) 0 = p at *
  generalize hq : zw_p n (I 54) (I 8 2) 1 = q at *
  generalize hA : zw_a n (I 54) (I 8 2) 0 = A at *
  generalize hB : zw_a n (I 54) (I 8 2) 1 = B at *
  obtain ⟨V, hV⟩ : ∃ V, V = fun k => zw_mn (zw_sf p q A B W k) (p + 1) := ⟨_, rfl⟩
  have wi := zs_wi hN (J := J) hL1 hU hx hV (p + q) 0 (N - 1) (by omega) (by omega)
  have V0 : V 0 = 0 := by
    have a : V 0 = zw_mn (zw_sf p q A B W 0) (p + 1) := by rw [hV]
    have b := zw_mn_le (f := zw_sf p q A B W 0) (show 0 < p + 1 by omega)
    rw [show zw_sf p q A B W 0 0 = 0 from by
      unfold zw_sf
      rw [if_pos ⟨by omega, by omega⟩]
      show min (zw_V A B W 0 0 0) (zw_V A B W 0 0 1) = 0
      rw [zw_V00, zw_V00]; rfl] at b
    omega
  have Vb : ∀ k, V k ≤ 1000000 := fun k => by rw [hV]; exact zw_mn_b _
  have fv : ∀ (Xb Yb : Int32) (ah : Nat → Int32) (k : Nat), (zw_go p q A B W Xb Yb (p + q) 0 0 12 0 [] 0 0 (zw_a0 ah)).2.2.2.2.2.2.2.1 k = nI (V k) := fun Xb Yb ah k => by rw [fw, hV]
  rw [show zw_wl V x 0 = 0 from rfl, V0] at wi
  have A1 : zf_X11_within N (nI x) I J = some (nI (zw_wl V x (p + q)), zz_u X1 2 3 1, zz_u J 4 0 (nI (V (zw_wl V x (p + q)))).toInt64) := by
    obtain ⟨M, rfl⟩ := zu_one N hN
    rw [zo_X11_within]
    exact zu_gd ih' (zu_bd e0 (zu_bd e1 wi))
  have cC : ∀ y, y ≠ 2 → y ≠ 41 → y ≠ 44 → y ≠ 45 → zz_u X1 2 3 1 y = X y := fun y a b c d => by rw [zu_ux a, g1 y c]
  have cC2 : ∀ i, i ≠ 3 → zz_u X1 2 3 1 2 i = X 2 i := fun i hi => by rw [zz_un (fun w => hi w.2), g1 2 (by omega)]
  have C23 : zz_u X1 2 3 1 2 3 = nI 1 := zz_us _ _ _ _
  generalize zz_u X1 2 3 1 = C at *
  generalize hJ1 : zz_u J 4 0 (nI (V (zw_wl V x (p + q)))).toInt64 = J1 at *
  obtain ⟨R, F2, r1, r2, r3, r4⟩ := zm_laid hN h hX ru fx cC cC2 (P := zz_u C 52 7 0) (fun y a _ => zu_ux a) (fun i a b => zz_un (fun w => b w.2)) J1
  rw [hp, hq, hA, hB, hWW] at r2
  have R68 : ∀ k, k < 13 → R 68 k = nI (V k) := fun k hk => by rw [r2.2.2.2.2.2.2.2.2.1 k hk, fv]
  have P52 : ∀ i, i ≠ 7 → zz_u C 52 7 0 52 i = I 52 i := fun i hi => by rw [zz_un (fun w => hi w.2), cC 52 (by omega) (by omega) (by omega) (by omega), x52]
  have R53 : R 53 = I 53 := by rw [r3.1 53 (by omega) (by omega) (by omega) (by omega) (by omega) (by omega) (by omega) (by omega) (by omega) (by omega), zu_ux (by omega), cC 53 (by omega) (by omega) (by omega) (by omega), x53]
  have Bq : zf_X12_within N (nI x) C J1 F = some (nI (zw_wl V x (p + q)), zz_u R 52 6 1, zz_u J1 56 0 (nI (V (zw_wl V x (p + q)))).toInt64, F2) := by
    have w1 := zm_where hN hn (I := R) (J := J1) (by rw [zw_R52 r3 (by omega) (by omega) (by omega) (by omega) (by omega) (by omega) (by omega) (by omega) (by omega), P52 1 (by omega)]; exact h.1.2.1) 0
    have w2 := zm_wi (N := N) (R := R) (J := J1) (F := F2) hx V0 Vb R68 (p + q) (N - 1) (by omega) (by omega)
    rw [R53] at w1
    rw [← bc] at w2
    obtain ⟨M, rfl⟩ := zu_one N hN
    rw [zo_X12_within]
    exact zu_gd im (zu_bd r1 (zu_bd w1 w2))
  refine ⟨_, _, _, _, _, _, A1, Bq, r4 _ _ (fun y a => zu_ux a) (fun i a => zz_un (fun w => a w.2)) (zi_tol1 ?_ (zz_us _ _ _ _) (by rw [← hJ1]; rfl))⟩
  rw [zu_ux (by omega), zw_fr2 r3, zu_ux (by omega)]
  exact C23
