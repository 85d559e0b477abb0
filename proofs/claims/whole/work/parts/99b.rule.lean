/-! RULE, BOTH -/
theorem zi_rulE {n : Nat} {I I2 : Nat → Nat → Int32} {J : Nat → Nat → Int64} {F F2 : zz_F} (h : zi n I J F) (hk : ∀ a i, zk_k a i = true → a ≠ 28 → a ≠ 29 → a ≠ 58 → ¬ (a = 52 ∧ i = 16) → I2 a i = I a i) (ht : zi_tol I2 J) (hr : zi_rul n I2) (hF : zi_F F2) : zi n I2 J F2 := by
  have c : ∀ a i, zk_k a i = true → a ≠ 28 → a ≠ 29 → a ≠ 58 → ¬ (a = 52 ∧ i = 16) → I2 a i = I a i := hk
  have f : ∀ a, (∀ i, zk_k a i = true) → a ≠ 28 → a ≠ 29 → a ≠ 58 → a ≠ 52 → I2 a = I a := fun a ha a1 a2 a3 a4 => funext fun i => c a i (ha i) a1 a2 a3 (fun w => a4 w.1)
  obtain ⟨h1, h2, h3, h4, h5, h6, h7, h8, h9⟩ := h
  refine ⟨zc_sc h1 (c 5 2 rfl (by omega) (by omega) (by omega) (by omega)) (f 6 (fun _ => rfl) (by omega) (by omega) (by omega) (by omega)) (f 7 (fun _ => rfl) (by omega) (by omega) (by omega) (by omega)) (c 52 1 rfl (by omega) (by omega) (by omega) (by omega)) (f 54 (fun _ => rfl) (by omega) (by omega) (by omega) (by omega)), ?_, zc_txt h3 (c 2 1 rfl (by omega) (by omega) (by omega) (by omega)) (c 52 4 rfl (by omega) (by omega) (by omega) (by omega)) (f 3 (fun _ => rfl) (by omega) (by omega) (by omega) (by omega)) (f 55 (fun _ => rfl) (by omega) (by omega) (by omega) (by omega)), ht, zc_bow h5 (c 2 15 rfl (by omega) (by omega) (by omega) (by omega)) (c 2 16 rfl (by omega) (by omega) (by omega) (by omega)) (c 52 43 rfl (by omega) (by omega) (by omega) (by omega)) (c 52 44 rfl (by omega) (by omega) (by omega) (by omega)), zc_rng h6 (c 9 4 rfl (by omega) (by omega) (by omega) (by omega)) (c 9 5 rfl (by omega) (by omega) (by omega) (by omega)) (c 52 20 rfl (by omega) (by omega) (by omega) (by omega)) (f 61 (fun _ => rfl) (by omega) (by omega) (by omega) (by omega)) (fun k hk => f _ (fun i => by
      rcases (by omega : k = 0 ∨ k = 1 ∨ k = 2 ∨ k = 3 ∨ k = 4 ∨ k = 5 ∨ k = 6 ∨ k = 7 ∨ k = 8 ∨ k = 9 ∨ k = 10 ∨ k = 11) with q | q | q | q | q | q | q | q | q | q | q | q <;> rw [q] <;> rfl) (by omega) (by omega) (by omega) (by omega)), zc_shl h7 (c 52 45 rfl (by omega) (by omega) (by omega) (by omega)) (f 12 (fun _ => rfl) (by omega) (by omega) (by omega) (by omega)) (f 81 (fun _ => rfl) (by omega) (by omega) (by omega) (by omega)) (f 82 (fun _ => rfl) (by omega) (by omega) (by omega) (by omega)) (f 80 (fun _ => rfl) (by omega) (by omega) (by omega) (by omega)) (fun k hk => f _ (fun i => by
      rcases (by omega : k = 0 ∨ k = 1) with q | q <;> rw [q] <;> rfl) (by omega) (by omega) (by omega) (by omega)), hr, hF⟩
  rw [f 53 (fun _ => rfl) (by omega) (by omega) (by omega) (by omega), f 8 (fun _ => rfl) (by omega) (by omega) (by omega) (by omega)]
  exact h2
theorem zu_bb : ∀ b, b < 256 → vp_nar .byte ((nI b).toInt8.toInt32) = (nI b).toInt8.toInt32 := by
  intro b hb
  rw [vp_nar_byte]
  exact (by decide +kernel : ∀ b, b < 256 → ((nI b).toInt8.toInt32).toInt8.toInt32 = (nI b).toInt8.toInt32) b hb
theorem zm_cp {N : Nat} {J : Nat → Nat → Int64} {F : zz_F} (hF : zz_ru F = 58) {len : Nat} (hl : len ≤ 40) : ∀ k i u (Y : Nat → Nat → Int32), i + k = len → k < u → (∀ j, j < len → ∃ b, b < 256 ∧ Y 55 j = (nI b).toInt8.toInt32) → (∀ j, j < i → Y 58 j = Y 55 j) → ∃ Y', zl_X12_rule N u 26 (nI len) (nI i) Y J F = some (0, zz_u Y' 52 16 (nI len), J, F) ∧ (∀ x, x ≠ 58 → Y' x = Y x) ∧ ∀ j, j < len → Y' 58 j = Y 55 j := by
  intro k
  induction k with
  | zero =>
    intro i u Y hi hu hb hj
    obtain ⟨w, rfl⟩ : ∃ w, u = w + 1 := ⟨u - 1, by omega⟩
    obtain rfl : i = len := by omega
    refine ⟨Y, ?_, fun _ _ => rfl, hj⟩
    rw [zo_X12_rule_26]
    unfold zb_X12_rule_26
    rw [if_pos (nI_le (Nat.le_refl i) (by omega))]
  | succ k ih =>
    intro i u Y hi hu hb hj
    obtain ⟨w, rfl⟩ : ∃ w, u = w + 1 := ⟨u - 1, by omega⟩
    obtain ⟨b, hb1, hb2⟩ := hb i (by omega)
    rw [zo_X12_rule_26]
    unfold zb_X12_rule_26
    rw [if_neg (nI_ge (show i < len by omega) (by omega)), if_pos (nI_in (show i < 80 by omega) (by omega)), hF]
    rw [if_pos (show zz_XK F.2.2.1 58 = 12 from rfl), if_pos (show ¬ (nI i < 0 ∨ zz_XL F.2.2.2.2.1 F.2.2.2.1 58 ≤ (nI i).toNatClampNeg) from nI_in (show i < 40 by omega) (show 40 < 2 ^ 31 by omega))]
    rw [if_pos (show zz_XK F.2.2.1 58 = 12 from rfl), nI_clamp (by omega), hb2, zu_bb b hb1, ← hb2, nI_1]
    obtain ⟨Y', g1, g2, g3⟩ := ih (i + 1) w (zz_u Y 58 i (Y 55 i)) (by omega) (by omega) (fun j hj2 => by rw [zu_ux (by omega)]; exact hb j hj2) (fun j hj2 => by
      rw [zu_ux (show 55 ≠ 58 by omega)]
      by_cases q : j = i
      · rw [q, zz_us]
      · rw [zz_un (fun w => q w.2)]; exact hj j (by omega))
    exact ⟨Y', g1, fun x hx => (g2 x hx).trans (zu_ux hx), fun j hj2 => (g3 j hj2).trans (by rw [zu_ux (by omega)])⟩
theorem zy_rule {N n : Nat} (hN : 100000 ≤ N) {I : Nat → Nat → Int32} {J : Nat → Nat → Int64} {F : zz_F} (h : zi n I J F) (h0 : zi_pl I) : ∃ v I1 J1 I2 J2 F2, zf_X11_rule N I J = some (v, I1, J1) ∧ zf_X12_rule N I1 J1 F = some (v, I2, J2, F2) ∧ zi n I2 J2 F2 := by
  have hn := h.1.1
  obtain ⟨⟨len, hl, l2, l52⟩, hby⟩ := h.2.2.1
  have hE := zi_emp h
  have ht : ∀ k, k < 80 → zz_u I 2 1 0 3 k = I 55 k &&& 255 := fun k hk => by rw [zu_ux (by omega)]; exact (hby k hk).1
  have hb : ∀ i, i < min len 40 → ∃ b, b < 256 ∧ I 55 i = (nI b).toInt8.toInt32 := fun i hi => (hby i (by omega)).2
  have hF := h.2.2.2.2.2.2.2.2
  -- what stays
  have kp : ∀ (X Y : Nat → Nat → Int32), (∀ x, x ≠ 28 → x ≠ 29 → x ≠ 37 → x ≠ 38 → x ≠ 39 → X x = zz_u I 2 1 0 x) → (∀ x, x ≠ 52 → x ≠ 58 → Y x = X x) → (∀ i, i ≠ 4 → i ≠ 7 → i ≠ 9 → i ≠ 10 → i ≠ 11 → i ≠ 12 → i ≠ 16 → i ≠ 17 → Y 52 i = X 52 i) → Y 52 4 = 0 → (∀ a i, zk_k a i = true → a ≠ 28 → a ≠ 29 → a ≠ 58 → ¬ (a = 52 ∧ i = 16) → Y a i = zz_u (zz_u I 2 1 0) 52 4 0 a i) ∧ zi_tol Y J := fun X Y hX hY hY2 hY4 => by
    refine ⟨fun a i hk a1 a2 a3 a4 => ?_, zc_tol hE.2.2.2.1 ?_ ?_ rfl rfl⟩
    · by_cases e : a = 52
      · subst e
        by_cases i4 : i = 4
        · subst i4; rw [hY4]; rfl
        · rw [hY2 i i4 (fun w => by subst w; cases hk) (fun w => by subst w; cases hk) (fun w => by subst w; cases hk) (fun w => by subst w; cases hk) (fun w => by subst w; cases hk) (fun w => a4 ⟨rfl, w⟩) (fun w => by subst w; cases hk), hX 52 (by omega) (by omega) (by omega) (by omega) (by omega), zz_un (fun w => i4 w.2)]
      · rw [hY a e a3, hX a a1 a2 (fun w => by subst w; cases hk) (fun w => by subst w; cases hk) (fun w => by subst w; cases hk), zu_ux e]
    · rw [hY 2 (by omega) (by omega), hX 2 (by omega) (by omega) (by omega) (by omega) (by omega)]; rfl
    · rw [hY2 6 (by omega) (by omega) (by omega) (by omega) (by omega) (by omega) (by omega) (by omega), hX 52 (by omega) (by omega) (by omega) (by omega) (by omega)]; rfl
  -- the reference
  have rf : ∀ X : Nat → Nat → Int32, (∀ x, x ≠ 28 → x ≠ 29 → x ≠ 37 → x ≠ 38 → x ≠ 39 → X x = zz_u I 2 1 0 x) → ∃ v Y, zf_X12_readRule N (zz_u X 52 7 0) J F = some (v, Y, J, zz_Fre F (some 55)) ∧ (∀ x, x ≠ 52 → Y x = X x) ∧ (∀ i, i ≠ 4 → i ≠ 7 → i ≠ 9 → i ≠ 10 → i ≠ 11 → i ≠ 12 → i ≠ 17 → Y 52 i = X 52 i) ∧ Y 52 4 = 0 ∧ X 52 4 = nI len ∧ ((len = 0 ∧ v = 1) ∨ (0 < len ∧ ∃ u, zq_g (min len 40) (I 55) (fun _ => 0) 999 0 0 0 0 = .inr (u, len) ∧ v = 1) ∨ (0 < len ∧ v = 0 ∧ ∃ x, zg_bad (min len 40) (I 55) (fun _ => 0) len x ∧ Y 52 12 = nI x)) := fun X hX => by
    have X4 : X 52 4 = nI len := by rw [hX 52 (by omega) (by omega) (by omega) (by omega) (by omega)]; exact l52
    obtain ⟨v, Y, g1, g2, g3, g4, g5⟩ := zm_rr hN (P := zz_u X 52 7 0) (J := J) (F := F) hl hb (by rw [zz_un (by omega)]; exact X4) (by rw [zu_ux (by omega), hX 55 (by omega) (by omega) (by omega) (by omega) (by omega), zu_ux (by omega)])
    exact ⟨v, Y, g1, fun x hx => (g2 x hx).trans (zu_ux hx), fun i i1 i2 i3 i4 i5 i6 i7 => (g3 i i1 i3 i4 i5 i6 i7).trans (zz_un (fun w => i2 w.2)), g4, X4, g5⟩
  by_cases l0 : len = 0
  · -- the plain rule
    obtain ⟨X, e1, tk, e29⟩ := zs_plain28 hN (I := zz_u I 2 1 0) (J := J)
    have hX : ∀ x, x ≠ 28 → x ≠ 29 → x ≠ 37 → x ≠ 38 → x ≠ 39 → X x = zz_u I 2 1 0 x := fun x x1 x2 _ _ _ => tk.1 x x2 x1
    have A : zf_X11_rule N I J = some (0, X, J) := by
      obtain ⟨M, rfl⟩ := zu_one N hN
      rw [zo_X11_rule]
      unfold zb_X11_rule_0
      exact zu_gn (fun w => w (by show I 2 1 = 0; rw [l2, l0]; rfl)) (zu_bd e1 rfl)
    obtain ⟨v, Y, r1, r2, r3, r4, r5, r6⟩ := rf X hX
    have v1 : v = 1 := by
      rcases r6 with ⟨_, w⟩ | ⟨w, _⟩ | ⟨w, _⟩
      · exact w
      · omega
      · omega
    subst v1
    have Bq : zf_X12_rule N X J F = some (0, zz_u Y 52 16 (nI 0), J, zz_Fre F (some 55)) := by
      obtain ⟨M, rfl⟩ : ∃ M, N = M + 1 + 1 := ⟨N - 2, by omega⟩
      rw [zo_X12_rule]
      unfold zb_X12_rule_0
      refine zu_bd r1 (zu_gd (show ¬ (1 : Int32) = 0 by decide) ?_)
      rw [r5, l0]
      show zl_X12_rule (M + 1 + 1) (M + 1) 26 (nI 0) 0 Y J (zz_Fre F (some 55)) = _
      rw [zo_X12_rule_26]
      unfold zb_X12_rule_26
      rw [if_pos (show nI 0 ≤ 0 by decide)]
    obtain ⟨k1, k2⟩ := kp X (zz_u Y 52 16 (nI 0)) hX (fun x x1 x2 => by rw [zu_ux x1, r2 x x1]) (fun i i1 i2 i3 i4 i5 i6 i7 i8 => by rw [zz_un (fun w => i7 w.2), r3 i i1 i2 i3 i4 i5 i6 i8]) (by rw [zz_un (by omega)]; exact r4)
    refine ⟨_, _, _, _, _, _, A, Bq, zi_rulE hE k1 k2 ⟨0, 7, by omega, by omega, rfl, ?_, ⟨.inl rfl, fun k hk => by omega⟩, fun e => ?_, .inl ?_, fun q => ?_⟩ hF⟩
    · rw [zu_ux (by omega), r2 28 (by omega)]; exact tk.2.2.1
    · have c : ∀ j, j < 7 → (zz_u Y 52 16 (nI 0)) 29 j = I 0 j := fun j hj => by rw [zu_ux (by omega), r2 29 (by omega), e29 j hj, zu_ux (by omega)]
      obtain ⟨p0, p1, p2, p3, p4, p5, p6⟩ := h0
      exact zc_plain ((c 0 (by omega)).trans p0) ((c 1 (by omega)).trans p1) ((c 2 (by omega)).trans p2) ((c 3 (by omega)).trans p3) ((c 4 (by omega)).trans p4) ((c 5 (by omega)).trans p5) ((c 6 (by omega)).trans p6)
    · rw [zu_ux (by omega), r2 28 (by omega)]; exact tk.2.2.2
    · rw [zu_ux (by omega), r2 28 (by omega), tk.2.2.2] at q
      exact absurd q (by decide)
  obtain ⟨X, f1, cs⟩ := zs_rr hN (I := zz_u I 2 1 0) (J := J) hl ht (fun _ => 0)
  rcases cs with ⟨x, e1, bd⟩ | ⟨e1, fi⟩
  · -- a fault
    have hX : ∀ x, x ≠ 28 → x ≠ 29 → x ≠ 37 → x ≠ 38 → x ≠ 39 → X x = zz_u I 2 1 0 x := fun x _ _ x1 x2 x3 => f1 x x1 x2 x3
    have A : zf_X11_rule N I J = some (-1 - nI x, X, J) := by
      obtain ⟨M, rfl⟩ := zu_one N hN
      rw [zo_X11_rule]
      unfold zb_X11_rule_0
      rw [show zv_X11_takeText I = nI len from l2, show zw_X11_takeText I = zz_u I 2 1 0 from rfl]
      exact zu_gd (show ¬ nI len = 0 from fun q => l0 ((nI_eq (b := 0) (by omega) (by omega)).mp q)) (zu_bd e1 (zu_gn (fun q => nI_pos (n := x) (by have := bd.1; omega) (by rw [show nI x = -1 from q]; decide)) rfl))
    obtain ⟨v, Y, r1, r2, r3, r4, r5, r6⟩ := rf X hX
    obtain ⟨v0, yx⟩ : v = 0 ∧ Y 52 12 = nI x := by
      rcases r6 with ⟨w, _⟩ | ⟨_, u, w, _⟩ | ⟨_, w, y, w2, w3⟩
      · exact absurd w l0
      · exact (zg_bad_no bd w).elim
      · rw [zg_bad_fun bd w2]; exact ⟨w, w3⟩
    subst v0
    have Bq : zf_X12_rule N X J F = some (-1 - nI x, Y, J, zz_Fre F (some 55)) := by
      obtain ⟨M, rfl⟩ := zu_one N hN
      rw [zo_X12_rule]
      unfold zb_X12_rule_0
      refine zu_bd r1 (zu_gn (fun w => w rfl) ?_)
      show some (-1 - Y 52 12, Y, J, zz_Fre F (some 55)) = _
      rw [yx]
    obtain ⟨k1, k2⟩ := kp X Y hX (fun x x1 x2 => r2 x x1) (fun i i1 i2 i3 i4 i5 i6 i7 i8 => r3 i i1 i2 i3 i4 i5 i6 i8) r4
    have y28 : Y 28 = zz_u (zz_u I 2 1 0) 52 4 0 28 := by rw [r2 28 (by omega), f1 28 (by omega) (by omega) (by omega), zu_ux (show 28 ≠ 52 by omega)]
    have y29 : Y 29 = zz_u (zz_u I 2 1 0) 52 4 0 29 := by rw [r2 29 (by omega), f1 29 (by omega) (by omega) (by omega), zu_ux (show 29 ≠ 52 by omega)]
    have y58 : Y 58 = zz_u (zz_u I 2 1 0) 52 4 0 58 := by rw [r2 58 (by omega), f1 58 (by omega) (by omega) (by omega), zu_ux (show 58 ≠ 52 by omega)]
    refine ⟨_, _, _, _, _, _, A, Bq, zi_told hE (fun a i hk => ?_) k2 hF⟩
    by_cases a1 : a = 28
    · subst a1; rw [y28]
    by_cases a2 : a = 29
    · subst a2; rw [y29]
    by_cases a3 : a = 58
    · subst a3; rw [y58]
    by_cases a4 : a = 52 ∧ i = 16
    · obtain ⟨rfl, rfl⟩ := a4
      rw [r3 16 (by omega) (by omega) (by omega) (by omega) (by omega) (by omega) (by omega), f1 52 (by omega) (by omega) (by omega), zz_un (show ¬ (52 = 52 ∧ 16 = 4) by omega)]
    exact k1 a i hk a1 a2 a3 a4
  · -- a rule
    obtain ⟨l40, hok, c, hc, c2, hev⟩ := fi
    obtain ⟨X2, e2, tk, e29⟩ := zs_from28 hN (I := X) (J := J) hc c2
    have hX : ∀ x, x ≠ 28 → x ≠ 29 → x ≠ 37 → x ≠ 38 → x ≠ 39 → X2 x = zz_u I 2 1 0 x := fun x x1 x2 x3 x4 x5 => (tk.1 x x2 x1).trans (f1 x x3 x4 x5)
    have A : zf_X11_rule N I J = some (0, X2, J) := by
      obtain ⟨M, rfl⟩ := zu_one N hN
      rw [zo_X11_rule]
      unfold zb_X11_rule_0
      rw [show zv_X11_takeText I = nI len from l2, show zw_X11_takeText I = zz_u I 2 1 0 from rfl]
      exact zu_gd (show ¬ nI len = 0 from fun q => l0 ((nI_eq (b := 0) (by omega) (by omega)).mp q)) (zu_bd e1 (zu_gd rfl (zu_bd e2 rfl)))
    obtain ⟨v, Y, r1, r2, r3, r4, r5, r6⟩ := rf X2 hX
    have v1 : v = 1 := by
      rcases r6 with ⟨w, _⟩ | ⟨_, u, _, w⟩ | ⟨_, _, y, w2, _⟩
      · exact absurd w l0
      · exact w
      · obtain ⟨u, w⟩ := hok (fun _ => 0)
        exact (zg_bad_no w2 w).elim
    subst v1
    have Y55 : Y 55 = I 55 := by rw [r2 55 (by omega), hX 55 (by omega) (by omega) (by omega) (by omega) (by omega), zu_ux (by omega)]
    obtain ⟨Y2, q1, q2, q3⟩ := zm_cp (N := N) (J := J) (F := zz_Fre F (some 55)) hF.2.1 l40 len 0 (N - 1) Y (by omega) (by omega) (fun j hj => by rw [Y55]; exact (hby j (by omega)).2) (fun j hj => by omega)
    have Bq : zf_X12_rule N X2 J F = some (0, zz_u Y2 52 16 (nI len), J, zz_Fre F (some 55)) := by
      obtain ⟨M, rfl⟩ := zu_one N hN
      rw [zo_X12_rule]
      unfold zb_X12_rule_0
      refine zu_bd r1 (zu_gd (show ¬ (1 : Int32) = 0 by decide) ?_)
      rw [r5]
      exact q1
    obtain ⟨k1, k2⟩ := kp X2 (zz_u Y2 52 16 (nI len)) hX (fun x x1 x2 => by rw [zu_ux x1, q2 x x2, r2 x x1]) (fun i i1 i2 i3 i4 i5 i6 i7 i8 => by rw [zz_un (fun w => i7 w.2), q2 52 (by omega), r3 i i1 i2 i3 i4 i5 i6 i8]) (by rw [zz_un (by omega), q2 52 (by omega)]; exact r4)
    have t58 : ∀ j, j < len → (zz_u Y2 52 16 (nI len)) 58 j = I 55 j := fun j hj => by rw [zu_ux (by omega), q3 j hj, Y55]
    have hh : zq_h len ((zz_u Y2 52 16 (nI len)) 58) = zq_h len (I 55) := funext fun a => by
      unfold zq_h
      by_cases q : a < len
      · rw [if_pos q, if_pos q, t58 a q]
      · rw [if_neg q, if_neg q]
    rw [show min len 40 = len by omega] at hok hev
    refine ⟨_, _, _, _, _, _, A, Bq, zi_rulE hE k1 k2 ⟨len, c, l40, hc, rfl, ?_, ⟨.inr (fun e => ?_), fun k hk => ?_⟩, fun e => ?_, .inl ?_, fun q => ?_⟩ hF⟩
    · rw [zu_ux (by omega), q2 28 (by omega), r2 28 (by omega)]; exact tk.2.2.1
    · obtain ⟨v, w⟩ := hok e
      exact ⟨v, by rw [zq_g_c hh]; exact w⟩
    · rw [t58 k hk]; exact (hby k (by omega)).2
    · obtain ⟨v, w⟩ := hok e
      rw [zc_s_cong (c := X 38) c (fun j hj => by rw [zu_ux (by omega), q2 29 (by omega), r2 29 (by omega), e29 j hj]), hev e v w]
      unfold zq_val
      rw [if_neg l0, zq_g_c hh, w]
    · rw [zu_ux (by omega), q2 28 (by omega), r2 28 (by omega)]; exact tk.2.2.2
    · rw [zu_ux (by omega), q2 28 (by omega), r2 28 (by omega), tk.2.2.2] at q
      exact absurd q (by decide)
