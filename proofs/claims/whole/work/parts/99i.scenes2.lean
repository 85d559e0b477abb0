/-! SCENES, BOTH -/
theorem zy_scenes {N n : Nat} (hN : 100000 ≤ N) {I : Nat → Nat → Int32} {J : Nat → Nat → Int64} {F : zz_F} (h : zi n I J F) : ∃ v I1 J1 I2 J2 F2 n2, zf_X11_scenes N I J = some (v, I1, J1) ∧ zf_X12_scenes N I1 J1 F = some (v, I2, J2, F2) ∧ zi n2 I2 J2 F2 := by
  have hn := h.1.1
  obtain ⟨⟨len, hl, l2, l52⟩, hby⟩ := h.2.2.1
  have hE := zi_emp h
  have hF := h.2.2.2.2.2.2.2.2
  have ht : ∀ k, k < 80 → zz_u I 2 1 0 3 k = I 55 k &&& 255 := fun k hk => by rw [zu_ux (by omega)]; exact (hby k hk).1
  have hb : ∀ i, i < min len 76 → ∃ b, b < 256 ∧ I 55 i = (nI b).toInt8.toInt32 := fun i hi => (hby i (by omega)).2
  -- where the reference begins
  have bg : ∀ P : Nat → Nat → Int32, P 52 4 = nI len → zf_X12_beginText N 76 (zz_u P 52 7 0) J F = some (0, zr_m (zz_u (zz_u (zz_u (zz_u P 52 7 0) 52 9 (nI len)) 52 10 76) 52 4 0) 0 (-1), J, zz_Fre F (some 55)) := fun P hP => by
    have b := zm_begin hN 76 (zz_u P 52 7 0) J F
    rw [show zz_u P 52 7 0 52 4 = nI len from hP] at b
    exact b
  -- nothing but the text is gone
  have kept : ∀ (X B : Nat → Nat → Int32) (a x : Int32), zn_F n (zz_u I 2 1 0) X → (∀ y, y ≠ 57 → B y = zz_u (zz_u (zz_u (zz_u X 52 7 0) 52 9 (nI len)) 52 10 76) 52 4 0 y) → zi n (zr_m B a x) J (zz_Fre F (some 55)) := fun X B a x hX hB => by
    have X52 : ∀ i, X 52 i = I 52 i := fun i => by rw [hX.1 52 (by omega) (by omega), zu_ux (by omega)]
    have r52 : ∀ i, i ≠ 4 → i ≠ 7 → i ≠ 9 → i ≠ 10 → i ≠ 11 → i ≠ 12 → zr_m B a x 52 i = I 52 i := fun i i1 i2 i3 i4 i5 i6 => by
      unfold zr_m
      rw [zz_un (fun w => i6 w.2), zz_un (fun w => i5 w.2), hB 52 (by omega), zz_un (fun w => i1 w.2), zz_un (fun w => i4 w.2), zz_un (fun w => i3 w.2), zz_un (fun w => i2 w.2), X52]
    have rx : ∀ y, y ≠ 52 → y ≠ 57 → y ≠ 36 → y ≠ 6 → zr_m B a x y = zz_u I 2 1 0 y := fun y y1 y2 y3 y4 => by rw [zr_x y1, hB y y2, zu_ux y1, zu_ux y1, zu_ux y1, zu_ux y1, hX.1 y y3 y4]
    have r6 : ∀ k, k < 7 * n → zr_m B a x 6 k = I 6 k := fun k hk => by rw [zr_x (by omega), hB 6 (by omega), zu_ux (by omega), zu_ux (by omega), zu_ux (by omega), zu_ux (by omega), hX.2 k hk, zu_ux (by omega)]
    have ry : ∀ y, y ≠ 52 → y ≠ 57 → y ≠ 36 → y ≠ 6 → y ≠ 2 → zr_m B a x y = I y := fun y y1 y2 y3 y4 y5 => by rw [rx y y1 y2 y3 y4, zu_ux y5]
    have r2 : ∀ i, i ≠ 1 → zr_m B a x 2 i = I 2 i := fun i hi => by rw [rx 2 (by omega) (by omega) (by omega) (by omega), zz_un (fun w => hi w.2)]
    obtain ⟨h1, h2, h3, h4, h5, h6, h7, h8, h9⟩ := h
    have e9 := ry 9 (by omega) (by omega) (by omega) (by omega) (by omega)
    have e54 := ry 54 (by omega) (by omega) (by omega) (by omega) (by omega)
    have e5 := ry 5 (by omega) (by omega) (by omega) (by omega) (by omega)
    refine ⟨⟨h1.1, by rw [r52 1 (by omega) (by omega) (by omega) (by omega) (by omega) (by omega)]; exact h1.2.1, by rw [e5]; exact h1.2.2.1, fun k hk => by rw [r6 k hk, e54]; exact h1.2.2.2.1 k hk, by rw [e54]; exact h1.2.2.2.2.1, by rw [ry 7 (by omega) (by omega) (by omega) (by omega) (by omega), e54]; exact h1.2.2.2.2.2.1, by rw [ry 7 (by omega) (by omega) (by omega) (by omega) (by omega), e54]; exact h1.2.2.2.2.2.2⟩, ?_, ⟨⟨0, by omega, ?_, ?_⟩, ?_⟩, zc_tol h4 (r2 3 (by omega)) (r52 6 (by omega) (by omega) (by omega) (by omega) (by omega) (by omega)) rfl rfl, zc_bow h5 (r2 15 (by omega)) (r2 16 (by omega)) (r52 43 (by omega) (by omega) (by omega) (by omega) (by omega) (by omega)) (r52 44 (by omega) (by omega) (by omega) (by omega) (by omega) (by omega)), zc_rng h6 (congrFun e9 4) (congrFun e9 5) (r52 20 (by omega) (by omega) (by omega) (by omega) (by omega) (by omega)) (ry 61 (by omega) (by omega) (by omega) (by omega) (by omega)) (fun k hk => ry _ (by omega) (by omega) (by omega) (by omega) (by omega)), zc_shl h7 (r52 45 (by omega) (by omega) (by omega) (by omega) (by omega) (by omega)) (ry 12 (by omega) (by omega) (by omega) (by omega) (by omega)) (ry 81 (by omega) (by omega) (by omega) (by omega) (by omega)) (ry 82 (by omega) (by omega) (by omega) (by omega) (by omega)) (ry 80 (by omega) (by omega) (by omega) (by omega) (by omega)) (fun k hk => ry _ (by omega) (by omega) (by omega) (by omega) (by omega)), zc_rul h8 (r52 16 (by omega) (by omega) (by omega) (by omega) (by omega) (by omega)) (congrFun (ry 28 (by omega) (by omega) (by omega) (by omega) (by omega)) 3) (congrFun (ry 28 (by omega) (by omega) (by omega) (by omega) (by omega)) 4) (ry 29 (by omega) (by omega) (by omega) (by omega) (by omega)) (ry 31 (by omega) (by omega) (by omega) (by omega) (by omega)) (ry 58 (by omega) (by omega) (by omega) (by omega) (by omega)) e54, h9⟩
    · rw [ry 53 (by omega) (by omega) (by omega) (by omega) (by omega), ry 8 (by omega) (by omega) (by omega) (by omega) (by omega)]; exact h2
    · rw [rx 2 (by omega) (by omega) (by omega) (by omega)]; exact zz_us _ _ _ _
    · show B 52 4 = _
      rw [hB 52 (by omega)]; exact zz_us _ _ _ _
    · rw [ry 3 (by omega) (by omega) (by omega) (by omega) (by omega), ry 55 (by omega) (by omega) (by omega) (by omega) (by omega)]; exact h3.2
  have F0 : zn_F n (zz_u I 2 1 0) (zz_u I 2 1 0) := ⟨fun _ _ _ => rfl, fun _ _ => rfl⟩
  by_cases l0 : len = 0
  · have A : zf_X11_scenes N I J = some (0, zz_u I 2 1 0, J) := by
      obtain ⟨M, rfl⟩ := zu_one N hN
      rw [zo_X11_scenes]
      exact zu_gn (fun w => w (by show I 2 1 = 0; rw [l2, l0]; rfl)) rfl
    have b := bg (zz_u I 2 1 0) (by rw [zu_ux (by omega)]; exact l52)
    have Bq : zf_X12_scenes N (zz_u I 2 1 0) J F = some (0, zr_m (zz_u (zz_u (zz_u (zz_u (zz_u I 2 1 0) 52 7 0) 52 9 (nI len)) 52 10 76) 52 4 0) 0 (-1), J, zz_Fre F (some 55)) := by
      obtain ⟨M, rfl⟩ := zu_one N hN
      rw [zo_X12_scenes]
      exact zu_bd b (zu_gn (fun w => w (by show nI len = 0; rw [l0]; rfl)) rfl)
    exact ⟨_, _, _, _, _, _, n, A, Bq, kept _ _ _ _ F0 (fun _ _ => rfl)⟩
  -- the class reads
  have rc := zn_lc hN (C := N - 1) (by omega) hl rfl (n := n) (I := zz_u I 2 1 0) (J := J) ht (13 - n) 0 0 (zw_X3_begin (zz_u I 2 1 0)) (by omega) (by omega) (by omega) ⟨fun x x1 x2 => by
    unfold zw_X3_begin
    rw [zu_ux x1, zu_ux x1, zu_ux x1], fun k hk => by
    unfold zw_X3_begin
    rw [zu_ux (by omega), zu_ux (by omega), zu_ux (by omega)]⟩ rfl (by
    show zz_u I 2 1 0 5 2 = _
    rw [zu_ux (by omega)]; exact h.1.2.2.1) rfl
  have ef : zf_X7_faultIn_X3__3 N (nI len) 76 (zz_u I 2 1 0) J = zn_W N (N - 1) len (min len 76) 0 (zw_X3_begin (zz_u I 2 1 0)) J := by
    obtain ⟨M, rfl⟩ := zu_one N hN
    rw [zo_X7_faultIn_X3__3]
    unfold zb_X7_faultIn_X3__3_0
    have mn : zz_min (nI len) (zz_min 76 (nI 80)) = nI (min len 76) := by
      rw [show zz_min 76 (nI 80) = nI 76 by decide]
      unfold zz_min
      by_cases q : 76 < len
      · rw [if_pos (nI_lt q (by omega)), show min len 76 = 76 by omega]
      · rw [if_neg (nI_nlt (by omega) (by omega)), show min len 76 = len by omega]
    rw [mn]
    rfl
  have ne0 : ¬ nI len = 0 := fun q => l0 ((nI_eq (b := 0) (by omega) (by omega)).mp q)
  -- the reference reads
  have rr : ∀ X : Nat → Nat → Int32, zn_F n (zz_u I 2 1 0) X ∨ (∀ y, y ≠ 36 → y ≠ 6 → y ≠ 5 → y ≠ 7 → y ≠ 8 → y ≠ 28 → y ≠ 9 → y ≠ 12 → X y = zz_u I 2 1 0 y) → zn_lrP N 0 len (zz_u (zz_u (zz_u (zz_u X 52 7 0) 52 9 (nI len)) 52 10 76) 52 4 0) J (zz_Fre F (some 55)) (zf_X12_scenes N X J F) (zn_ls (zq_h (min len 76) (I 55)) n len (13 - n) 0 0) := fun X hX => by
    have X52 : X 52 = I 52 := by
      rcases hX with w | w
      · rw [w.1 52 (by omega) (by omega), zu_ux (by omega)]
      · rw [w 52 (by omega) (by omega) (by omega) (by omega) (by omega) (by omega) (by omega) (by omega), zu_ux (by omega)]
    have X55 : X 55 = I 55 := by
      rcases hX with w | w
      · rw [w.1 55 (by omega) (by omega), zu_ux (by omega)]
      · rw [w 55 (by omega) (by omega) (by omega) (by omega) (by omega) (by omega) (by omega) (by omega), zu_ux (by omega)]
    have b := bg X (by rw [X52]; exact l52)
    have r := zn_lr hN (J := J) (F := zz_Fre F (some 55)) hl hb (n := n) (13 - n) 0 0 (N - 1) (zz_u (zz_u (zz_u (zz_u X 52 7 0) 52 9 (nI len)) 52 10 76) 52 4 0) (by omega) (by omega) (by omega) (by omega) ⟨rfl, X55, rfl, rfl⟩ (by
      show X 52 1 = _
      rw [X52]; exact h.1.2.1)
    have e : zf_X12_scenes N X J F = zl_X12_scenes N (N - 1) 24 (nI 0) 1 0 (zr_m (zz_u (zz_u (zz_u (zz_u X 52 7 0) 52 9 (nI len)) 52 10 76) 52 4 0) (nI 0) (-1)) J (zz_Fre F (some 55)) := by
      obtain ⟨M, rfl⟩ := zu_one N hN
      rw [zo_X12_scenes]
      exact zu_bd b (zu_gd (show ¬ nI len = 0 from ne0) rfl)
    rw [e]
    exact r
  generalize hr : zn_ls (zq_h (min len 76) (I 55)) n len (13 - n) 0 0 = r at rc rr
  cases r with
  | inl x =>
    obtain ⟨X, F1, e1⟩ := rc
    obtain ⟨hx, B, a, g1, e2⟩ := rr X (.inl F1)
    have A : zf_X11_scenes N I J = some (-1 - nI x, X, J) := by
      obtain ⟨M, rfl⟩ := zu_one N hN
      rw [zo_X11_scenes]
      unfold zb_X11_scenes_0
      rw [show zv_X11_takeText I = nI len from l2, show zw_X11_takeText I = zz_u I 2 1 0 from rfl]
      exact zu_gd ne0 (zu_bd (ef.trans e1) (zu_gn (fun q => nI_pos (n := x) (by omega) (by rw [show nI x = -1 from q]; decide)) rfl))
    exact ⟨_, _, _, _, _, _, n, A, e2, kept X B _ _ F1 g1⟩
  | inr l =>
    obtain ⟨X, F1, -, en, x3, e1⟩ := rc
    obtain ⟨fds, hK1, hK2⟩ := zn_ls_ok (m := min len 76) (by omega) (13 - n) 0 0 l (by omega) (by omega) hr
    rw [Nat.add_zero] at en hK2
    rw [Nat.zero_add] at x3
    generalize hKK : l.length = K at x3 hK1 hK2
    have getl : ∀ i, i < K → ∃ fl, l[i]? = some fl ∧ zi_fd fl := fun i hi => ⟨l[i]'(by omega), List.getElem?_eq_getElem (by omega), fds _ (List.getElem_mem _)⟩
    -- fields of all scenes in the class
    have G6 : ∀ s, s < n + K → zi_fd (fun w => X 6 (7 * s + w)) := fun s hs => by
      by_cases q : s < n
      · exact zi_fd_c (h.1.2.2.2.2.1 s q) (fun w hw => by rw [F1.2 _ (by omega), zu_ux (by omega)]; exact h.1.2.2.2.1 _ (by omega))
      · obtain ⟨fl, e, fd⟩ := getl (s - n) (by omega)
        refine zi_fd_c fd (fun w hw => ?_)
        have := en (s - n) fl e w hw
        rw [show n + (s - n) = s by omega] at this
        exact this
    have X7 : X 7 = I 7 := by rw [F1.1 7 (by omega) (by omega), zu_ux (by omega)]
    have ss : ∀ v : Int32, zu_set (fun s => decide (I 54 (7 * s) = v)) n = zn_ss (X 6) v n := fun v => zu_set_cong fun s hs => by rw [F1.2 _ (by omega), zu_ux (by omega), h.1.2.2.2.1 _ (by omega)]
    obtain ⟨X1, gr, x1, x5, x70, x71⟩ := zn_grow_l (N := N) hK2 (J := J) (G := X 6) (fun s hs => (G6 s hs).1) K 0 (N - 1) X (by omega) (by omega) rfl (by rw [F1.1 5 (by omega) (by omega), zu_ux (by omega)]; exact h.1.2.2.1) (by rw [X7, h.1.2.2.2.2.2.1]; exact ss 0) (by rw [X7, h.1.2.2.2.2.2.2]; exact ss 1)
    have eg : zf_X9_grow N (nI K) X J = some (zu_set (fun s => decide (n ≤ s)) (n + K), X1, J) := by
      have z : zu_set (fun s => decide (n ≤ s)) (n + 0) = 0 := (zu_set_zero (by omega)).mpr (fun i hi => decide_eq_false (by omega))
      rw [z] at gr
      obtain ⟨M, rfl⟩ := zu_one N hN
      rw [zo_X9_grow]
      exact gr
    generalize hX2 : zz_u (zz_u (zw_X6_forgetUndone (zw_X1_growStale (zz_u X1 8 2 (X 8 2 ||| zu_set (fun s => decide (n ≤ s)) (n + K))))) 12 0 0) 12 1 0 = X2
    have A : zf_X11_scenes N I J = some (nI K, X2, J) := by
      rw [← hX2]
      have ec := zn_clear hN (X := zw_X6_forgetUndone (zw_X1_growStale (zz_u X1 8 2 (X 8 2 ||| zu_set (fun s => decide (n ≤ s)) (n + K))))) (J := J)
      obtain ⟨M, rfl⟩ := zu_one N hN
      rw [zo_X11_scenes]
      unfold zb_X11_scenes_0
      rw [show zv_X11_takeText I = nI len from l2, show zw_X11_takeText I = zz_u I 2 1 0 from rfl]
      refine zu_gd ne0 (zu_bd (ef.trans e1) (zu_gd rfl ?_))
      dsimp only
      rw [show zv_X3_lineCount X = nI K from x3]
      exact zu_bd eg (zu_bd ec rfl)
    have X2x : ∀ y, y ≠ 36 → y ≠ 6 → y ≠ 5 → y ≠ 7 → y ≠ 8 → y ≠ 28 → y ≠ 9 → y ≠ 12 → X2 y = zz_u I 2 1 0 y := fun y y1 y2 y3 y4 y5 y6 y7 y8 => by
      rw [← hX2, zu_ux y8, zu_ux y8]
      unfold zw_X6_forgetUndone zw_X1_growStale
      rw [zu_ux y7, zu_ux y6, zu_ux y5, x1 y y3 y4, F1.1 y y1 y2]
    have X2a : ∀ y, y ≠ 8 → y ≠ 28 → y ≠ 9 → y ≠ 12 → X2 y = X1 y := fun y y5 y6 y7 y8 => by
      rw [← hX2, zu_ux y8, zu_ux y8]
      unfold zw_X6_forgetUndone zw_X1_growStale
      rw [zu_ux y7, zu_ux y6, zu_ux y5]
    obtain ⟨B, u, hu, g1, -, gen, e2⟩ := rr X2 (.inr X2x)
    rw [hKK, Nat.zero_add] at e2
    have B52 : ∀ i, i ≠ 4 → i ≠ 7 → i ≠ 9 → i ≠ 10 → B 52 i = I 52 i := fun i i1 i2 i3 i4 => by
      rw [g1 52 (by omega), zz_un (fun w => i1 w.2), zz_un (fun w => i4 w.2), zz_un (fun w => i3 w.2), zz_un (fun w => i2 w.2), X2x 52 (by omega) (by omega) (by omega) (by omega) (by omega) (by omega) (by omega) (by omega), zu_ux (by omega)]
    have Bx : ∀ y, y ≠ 57 → y ≠ 52 → B y = X2 y := fun y y1 y2 => by rw [g1 y y1, zu_ux y2, zu_ux y2, zu_ux y2, zu_ux y2]
    obtain ⟨Y1, u1, hu1, k1, k2, k3, k4⟩ := zn_94 (N := N) hK2 (J := J) (F := zz_Fre F (some 55)) (7 * K) 0 u (zr_m B (nI len) (-1)) (by omega) (by omega) (by show B 52 1 = _; rw [B52 1 (by omega) (by omega) (by omega) (by omega)]; exact h.1.2.1) (fun j hj => by omega)
    obtain ⟨Y, q1, q2, q3, q4, q5, q6⟩ := zn_130 (N := N) hK2 (J := J) (F := zz_Fre F (some 55)) K 0 u1 Y1 (by omega) (by omega) (by rw [k2 52 (by omega)]; show B 52 1 = _; rw [B52 1 (by omega) (by omega) (by omega) (by omega)]; exact h.1.2.1) (fun s s1 s2 => by omega)
    have Bq := e2.trans (k1.trans q1)
    generalize hW : zz_u (zz_u Y 52 20 0) 52 45 (Y 52 45 + 1) = W at Bq
    have Wx : ∀ y, y ≠ 52 → y ≠ 53 → y ≠ 54 → y ≠ 57 → W y = X2 y := fun y y1 y2 y3 y4 => by rw [← hW, zu_ux y1, zu_ux y1, q2 y y1 y2, k2 y y3, zr_x y1, Bx y y4 y1]
    have W52 : ∀ i, i ≠ 1 → i ≠ 4 → i ≠ 7 → i ≠ 9 → i ≠ 10 → i ≠ 11 → i ≠ 12 → i ≠ 20 → i ≠ 45 → W 52 i = I 52 i := fun i i0 i1 i2 i3 i4 i5 i6 i7 i8 => by
      rw [← hW, zz_un (fun w => i8 w.2), zz_un (fun w => i7 w.2), q3 i i0, k2 52 (by omega)]
      unfold zr_m
      rw [zz_un (fun w => i6 w.2), zz_un (fun w => i5 w.2), B52 i i1 i2 i3 i4]
    have Wy : ∀ y, y ≠ 52 → y ≠ 53 → y ≠ 54 → y ≠ 57 → y ≠ 36 → y ≠ 6 → y ≠ 5 → y ≠ 7 → y ≠ 8 → y ≠ 28 → y ≠ 9 → y ≠ 12 → W y = zz_u I 2 1 0 y := fun y z1 z2 z3 z4 y1 y2 y3 y4 y5 y6 y7 y8 => by rw [Wx y z1 z2 z3 z4, X2x y y1 y2 y3 y4 y5 y6 y7 y8]
    have Wz : ∀ y, y ≠ 52 → y ≠ 53 → y ≠ 54 → y ≠ 57 → y ≠ 36 → y ≠ 6 → y ≠ 5 → y ≠ 7 → y ≠ 8 → y ≠ 28 → y ≠ 9 → y ≠ 12 → y ≠ 2 → W y = I y := fun y z1 z2 z3 z4 y1 y2 y3 y4 y5 y6 y7 y8 y9 => by rw [Wy y z1 z2 z3 z4 y1 y2 y3 y4 y5 y6 y7 y8, zu_ux y9]
    have W2 : ∀ i, i ≠ 1 → W 2 i = I 2 i := fun i hi => by rw [Wy 2 (by omega) (by omega) (by omega) (by omega) (by omega) (by omega) (by omega) (by omega) (by omega) (by omega) (by omega) (by omega), zz_un (fun w => hi w.2)]
    have W6 : W 6 = X 6 := by rw [Wx 6 (by omega) (by omega) (by omega) (by omega), X2a 6 (by omega) (by omega) (by omega) (by omega), x1 6 (by omega) (by omega)]
    have W54l : ∀ j, j < 7 * n → W 54 j = I 54 j := fun j hj => by rw [← hW, zu_ux (by omega), zu_ux (by omega), q2 54 (by omega) (by omega), k3 j hj, zr_x (by omega), Bx 54 (by omega) (by omega), X2x 54 (by omega) (by omega) (by omega) (by omega) (by omega) (by omega) (by omega) (by omega), zu_ux (by omega)]
    have W54h : ∀ j, j < 7 * K → W 54 (7 * n + j) = B 57 j := fun j hj => by rw [← hW, zu_ux (by omega), zu_ux (by omega), q2 54 (by omega) (by omega), k4 j hj, zr_x (by omega)]
    have same : ∀ k, k < 7 * (n + K) → W 6 k = W 54 k := fun k hk => by
      rw [W6]
      by_cases q : k < 7 * n
      · rw [W54l k q, F1.2 k q, zu_ux (by omega)]; exact h.1.2.2.2.1 k q
      · obtain ⟨i, w, hi, hw, ek⟩ : ∃ i w, i < K ∧ w < 7 ∧ k = 7 * (n + i) + w := ⟨(k - 7 * n) / 7, (k - 7 * n) % 7, by omega, by omega, by omega⟩
        obtain ⟨fl, e, _⟩ := getl i hi
        have a := en i fl e w hw
        have b := gen i fl e w hw
        rw [Nat.zero_add] at b
        rw [ek, a, show 7 * (n + i) + w = 7 * n + (7 * i + w) by omega, W54h _ (by omega), b]
    have W53h : ∀ s, n ≤ s → s < n + K → W 53 s = 0 := fun s s1 s2 => by rw [← hW, zu_ux (by omega), zu_ux (by omega)]; exact q6 s s1 s2
    have W53l : ∀ s, s < n ∨ n + K ≤ s → W 53 s = I 53 s := fun s hs => by rw [← hW, zu_ux (by omega), zu_ux (by omega), q5 s hs, k2 53 (by omega), zr_x (by omega), Bx 53 (by omega) (by omega), X2x 53 (by omega) (by omega) (by omega) (by omega) (by omega) (by omega) (by omega) (by omega), zu_ux (by omega)]
    have W8 : ∀ i, i ≠ 2 → W 8 i = I 8 i := fun i hi => by
      rw [Wx 8 (by omega) (by omega) (by omega) (by omega), ← hX2, zu_ux (by omega), zu_ux (by omega)]
      unfold zw_X6_forgetUndone zw_X1_growStale
      rw [zu_ux (by omega), zu_ux (by omega), zz_un (fun w => hi w.2), x1 8 (by omega) (by omega), F1.1 8 (by omega) (by omega), zu_ux (by omega)]
    have W82 : W 8 2 = I 8 2 ||| zu_set (fun s => decide (n ≤ s)) (n + K) := by
      rw [Wx 8 (by omega) (by omega) (by omega) (by omega), ← hX2, zu_ux (by omega), zu_ux (by omega)]
      unfold zw_X6_forgetUndone zw_X1_growStale
      rw [zu_ux (by omega), zu_ux (by omega), zz_us, F1.1 8 (by omega) (by omega), zu_ux (by omega)]
    have W28 : ∀ i, i ≠ 4 → W 28 i = I 28 i := fun i hi => by
      rw [Wx 28 (by omega) (by omega) (by omega) (by omega), ← hX2, zu_ux (by omega), zu_ux (by omega)]
      unfold zw_X6_forgetUndone zw_X1_growStale
      rw [zu_ux (by omega), zz_un (fun w => hi w.2), zu_ux (by omega), x1 28 (by omega) (by omega), F1.1 28 (by omega) (by omega), zu_ux (by omega)]
    have W284 : W 28 4 = 0 := by
      rw [Wx 28 (by omega) (by omega) (by omega) (by omega), ← hX2, zu_ux (by omega), zu_ux (by omega)]
      unfold zw_X6_forgetUndone zw_X1_growStale
      rw [zu_ux (by omega), zz_us]
    have W9 : ∀ i, i ≠ 5 → W 9 i = I 9 i := fun i hi => by
      rw [Wx 9 (by omega) (by omega) (by omega) (by omega), ← hX2, zu_ux (by omega), zu_ux (by omega)]
      unfold zw_X6_forgetUndone zw_X1_growStale
      rw [zz_un (fun w => hi w.2), zu_ux (by omega), zu_ux (by omega), x1 9 (by omega) (by omega), F1.1 9 (by omega) (by omega), zu_ux (by omega)]
    have W95 : W 9 5 = 0 := by
      rw [Wx 9 (by omega) (by omega) (by omega) (by omega), ← hX2, zu_ux (by omega), zu_ux (by omega)]
      unfold zw_X6_forgetUndone
      rw [zz_us]
    have W12 : ∀ i, i < 2 → W 12 i = 0 := fun i hi => by
      rw [Wx 12 (by omega) (by omega) (by omega) (by omega), ← hX2]
      rcases (by omega : i = 0 ∨ i = 1) with rfl | rfl
      · rw [zz_un (by omega), zz_us]
      · rw [zz_us]
    have W7 : W 7 = X1 7 := by rw [Wx 7 (by omega) (by omega) (by omega) (by omega), X2a 7 (by omega) (by omega) (by omega) (by omega)]
    have set54 : ∀ v : Int32, zn_ss (X 6) v (n + K) = zu_set (fun s => decide (W 54 (7 * s) = v)) (n + K) := fun v => zu_set_cong fun s hs => by rw [← same (7 * s) (by omega), W6]
    obtain ⟨h1, h2, h3, h4, h5, h6, h7, h8, h9⟩ := h
    obtain ⟨a0, a1, a2, a3, a4, a5, a6, a7, a8, a9, a10⟩ := h2
    have mr : ∀ v : Int32, v ≠ 0 → zu_set (fun s => decide (I 53 s = v)) n = zu_set (fun s => decide (W 53 s = v)) (n + K) := fun v hv => by
      rw [zu_set_more (n := n) (m := n + K) (by omega) (fun i i1 i2 => by rw [W53h i i1 i2]; exact decide_eq_false (fun q => hv q.symm))]
      exact zu_set_cong fun s hs => by rw [W53l s (.inl hs)]
    refine ⟨_, _, _, _, _, _, n + K, A, Bq, ⟨hK2, ?_, ?_, same, fun s hs => ?_, ?_, ?_⟩, ⟨?_, ?_, ?_, ?_, ?_, ?_, ?_, ?_, ?_, fun s hs => ?_, ?_⟩, ⟨⟨0, by omega, ?_, ?_⟩, ?_⟩, zc_tol h4 (W2 3 (by omega)) (W52 6 (by omega) (by omega) (by omega) (by omega) (by omega) (by omega) (by omega) (by omega) (by omega)) rfl rfl, zc_bow h5 (W2 15 (by omega)) (W2 16 (by omega)) (W52 43 (by omega) (by omega) (by omega) (by omega) (by omega) (by omega) (by omega) (by omega) (by omega)) (W52 44 (by omega) (by omega) (by omega) (by omega) (by omega) (by omega) (by omega) (by omega) (by omega)), ?_, ?_, ?_, hF⟩
    · rw [← hW, zz_un (by omega), zz_un (by omega)]; exact q4
    · rw [Wx 5 (by omega) (by omega) (by omega) (by omega), X2a 5 (by omega) (by omega) (by omega) (by omega)]; exact x5
    · exact zi_fd_c (G6 s hs) (fun w hw => by rw [← same _ (by omega), W6])
    · rw [W7, x70, set54]
    · rw [W7, x71, set54]
    · rw [W8 0 (by omega), a0, W53l 12 (.inr (by omega))]
    · rw [W8 1 (by omega), a1, W53l 13 (.inr (by omega))]
    · rw [W82, a2]
      refine zu_set_ext (by omega) (fun i hi => ?_) (fun i i1 i2 => ?_)
      · rw [b_or, zu_set_at (n := n + K) (by omega) hi]
        by_cases q : i < n
        · rw [zu_set_at (by omega) q, W53l i (.inl q), decide_eq_false (show ¬ n ≤ i by omega), Bool.or_false]
        · rw [zu_set_out (by omega) (by omega), W53h i (by omega) hi, decide_eq_true (show n ≤ i by omega)]; rfl
      · rw [b_or, zu_set_out (by omega) (by omega), zu_set_out (by omega) i1]; rfl
    · rw [W8 3 (by omega), a3]; exact mr 1 (by decide)
    · rw [W8 4 (by omega), a4]; exact mr 2 (by decide)
    · rw [W8 5 (by omega), a5, W53l 14 (.inr (by omega))]
    · rw [W8 6 (by omega), a6, W53l 15 (.inr (by omega))]
    · rw [W8 7 (by omega), a7, W53l 16 (.inr (by omega))]
    · rw [W8 8 (by omega), a8, W53l 17 (.inr (by omega))]
    · by_cases q : s < n
      · rw [W53l s (.inl q)]; exact a9 s q
      · exact .inl (W53h s (by omega) hs)
    · rw [W53l 13 (.inr (by omega))]
      exact a10.imp id (fun ⟨s, hs, e⟩ => ⟨s, by omega, e⟩)
    · rw [Wy 2 (by omega) (by omega) (by omega) (by omega) (by omega) (by omega) (by omega) (by omega) (by omega) (by omega) (by omega) (by omega)]; exact zz_us _ _ _ _
    · rw [← hW, zz_un (by omega), zz_un (by omega), q3 4 (by omega), k2 52 (by omega)]
      show B 52 4 = _
      rw [g1 52 (by omega)]; exact zz_us _ _ _ _
    · rw [Wz 3 (by omega) (by omega) (by omega) (by omega) (by omega) (by omega) (by omega) (by omega) (by omega) (by omega) (by omega) (by omega) (by omega), Wz 55 (by omega) (by omega) (by omega) (by omega) (by omega) (by omega) (by omega) (by omega) (by omega) (by omega) (by omega) (by omega) (by omega)]; exact h3.2
    · obtain ⟨m, t, hm, ht, c1, c2, c3, c4⟩ := h6
      exact ⟨0, t, by omega, ht, W95, by rw [← hW, zz_un (by omega), zz_us]; rfl, by rw [W9 4 (by omega)]; exact c3, fun k hk => by omega⟩
    · obtain ⟨c, hc, c1, c2⟩ := h7
      have w45 : W 52 45 = nI (c + 1) := by
        rw [← hW, zz_us, q3 45 (by omega), k2 52 (by omega)]
        show B 52 45 + 1 = _
        rw [B52 45 (by omega) (by omega) (by omega) (by omega), c1, nI_1]
      refine ⟨c + 1, by omega, w45, fun i hi => ?_⟩
      obtain ⟨d1, d2, ⟨e, he, d3⟩, d4, d5⟩ := c2 i hi
      have w81 := Wz 81 (by omega) (by omega) (by omega) (by omega) (by omega) (by omega) (by omega) (by omega) (by omega) (by omega) (by omega) (by omega) (by omega)
      have w82 := Wz 82 (by omega) (by omega) (by omega) (by omega) (by omega) (by omega) (by omega) (by omega) (by omega) (by omega) (by omega) (by omega) (by omega)
      refine ⟨.inl (W12 i hi), by rw [w81]; exact d2, ⟨e, by omega, by rw [w82]; exact d3⟩, ⟨fun q => ?_, fun q => ?_⟩, fun q => ?_⟩
      · rw [W12 i hi] at q; exact absurd q (by decide)
      · exfalso
        have := q.2
        rw [w82, d3, w45] at this
        have := (nI_eq (by omega) (by omega)).mp this
        omega
      · rw [W12 i hi] at q; exact absurd q (by decide)
    · obtain ⟨m, cs, m40, c40, m16, c3, ok, ev, f01, tb⟩ := h8
      have w58 := Wz 58 (by omega) (by omega) (by omega) (by omega) (by omega) (by omega) (by omega) (by omega) (by omega) (by omega) (by omega) (by omega) (by omega)
      exact ⟨m, cs, m40, c40, by rw [W52 16 (by omega) (by omega) (by omega) (by omega) (by omega) (by omega) (by omega) (by omega) (by omega)]; exact m16, by rw [W28 3 (by omega)]; exact c3, by rw [w58]; exact ok, by rw [Wz 29 (by omega) (by omega) (by omega) (by omega) (by omega) (by omega) (by omega) (by omega) (by omega) (by omega) (by omega) (by omega) (by omega), w58]; exact ev, .inl W284, fun q => by rw [W284] at q; exact absurd q (by decide)⟩
