/-! LAW, BOTH -/
theorem zi_rulJ {n : Nat} {I I2 : Nat → Nat → Int32} {J J2 : Nat → Nat → Int64} {F F2 : zz_F} (h : zi n I J F) (hk : ∀ a i, zk_k a i = true → a ≠ 28 → a ≠ 29 → a ≠ 31 → a ≠ 58 → ¬ (a = 52 ∧ i = 16) → I2 a i = I a i) (ht : zi_tol I2 J2) (hr : zi_rul n I2) (hF : zi_F F2)   : zi n I2 J2 F2 := by
  have c : ∀ a i, zk_k a i = true → a ≠ 28 → a ≠ 29 → a ≠ 31 → a ≠ 58 → ¬ (a = 52 ∧ i = 16) → I2 a i = I a i := hk
  have f : ∀ a, (∀ i, zk_k a i = true) → a ≠ 28 → a ≠ 29 → a ≠ 31 → a ≠ 58 → a ≠ 52 → I2 a = I a := fun a ha a1 a2 a3 a5 a4 => funext fun i => c a i (ha i) a1 a2 a3 a5 (fun w => a4 w.1)
  obtain ⟨h1, h2, h3, h4, h5, h6, h7, h8, h9⟩ := h
  refine ⟨zc_sc h1 (c 5 2 rfl (by omega) (by omega) (by omega) (by omega) (by omega)) (f 6 (fun _ => rfl) (by omega) (by omega) (by omega) (by omega) (by omega)) (f 7 (fun _ => rfl) (by omega) (by omega) (by omega) (by omega) (by omega)) (c 52 1 rfl (by omega) (by omega) (by omega) (by omega) (by omega)) (f 54 (fun _ => rfl) (by omega) (by omega) (by omega) (by omega) (by omega)), ?_, zc_txt h3 (c 2 1 rfl (by omega) (by omega) (by omega) (by omega) (by omega)) (c 52 4 rfl (by omega) (by omega) (by omega) (by omega) (by omega)) (f 3 (fun _ => rfl) (by omega) (by omega) (by omega) (by omega) (by omega)) (f 55 (fun _ => rfl) (by omega) (by omega) (by omega) (by omega) (by omega)), ht, zc_bow h5 (c 2 15 rfl (by omega) (by omega) (by omega) (by omega) (by omega)) (c 2 16 rfl (by omega) (by omega) (by omega) (by omega) (by omega)) (c 52 43 rfl (by omega) (by omega) (by omega) (by omega) (by omega)) (c 52 44 rfl (by omega) (by omega) (by omega) (by omega) (by omega)), zc_rng h6 (c 9 4 rfl (by omega) (by omega) (by omega) (by omega) (by omega)) (c 9 5 rfl (by omega) (by omega) (by omega) (by omega) (by omega)) (c 52 20 rfl (by omega) (by omega) (by omega) (by omega) (by omega)) (f 61 (fun _ => rfl) (by omega) (by omega) (by omega) (by omega) (by omega)) (fun k hk => f _ (fun i => by
      rcases (by omega : k = 0 ∨ k = 1 ∨ k = 2 ∨ k = 3 ∨ k = 4 ∨ k = 5 ∨ k = 6 ∨ k = 7 ∨ k = 8 ∨ k = 9 ∨ k = 10 ∨ k = 11) with q | q | q | q | q | q | q | q | q | q | q | q <;> rw [q] <;> rfl) (by omega) (by omega) (by omega) (by omega) (by omega)), zc_shl h7 (c 52 45 rfl (by omega) (by omega) (by omega) (by omega) (by omega)) (f 12 (fun _ => rfl) (by omega) (by omega) (by omega) (by omega) (by omega)) (f 81 (fun _ => rfl) (by omega) (by omega) (by omega) (by omega) (by omega)) (f 82 (fun _ => rfl) (by omega) (by omega) (by omega) (by omega) (by omega)) (f 80 (fun _ => rfl) (by omega) (by omega) (by omega) (by omega) (by omega)) (fun k hk => f _ (fun i => by
      rcases (by omega : k = 0 ∨ k = 1) with q | q <;> rw [q] <;> rfl) (by omega) (by omega) (by omega) (by omega) (by omega)), hr, hF⟩
  rw [f 53 (fun _ => rfl) (by omega) (by omega) (by omega) (by omega) (by omega), f 8 (fun _ => rfl) (by omega) (by omega) (by omega) (by omega) (by omega)]
  exact h2
theorem zy_law {N n : Nat} (hN : 100000 ≤ N) {I : Nat → Nat → Int32} {J : Nat → Nat → Int64} {F : zz_F} (h : zi n I J F) (h0 : zi_pl I) : ∃ v I1 J1 I2 J2 F2, zf_X11_law N I J = some (v, I1, J1) ∧ zf_X12_law N I1 J1 F = some (v, I2, J2, F2) ∧ zi n I2 J2 F2 := by
  have hn := h.1.1
  obtain ⟨⟨len, hl, l2, l52⟩, hby⟩ := h.2.2.1
  have hE := zi_emp h
  have ht : ∀ k, k < 80 → zz_u I 2 1 0 3 k = I 55 k &&& 255 := fun k hk => by rw [zu_ux (by omega)]; exact (hby k hk).1
  have hb : ∀ i, i < min len 40 → ∃ b, b < 256 ∧ I 55 i = (nI b).toInt8.toInt32 := fun i hi => (hby i (by omega)).2
  have hF := h.2.2.2.2.2.2.2.2
  have hla : I 53 13 = -1 ∨ ∃ s, s < n ∧ I 53 13 = nI s := h.2.1.2.2.2.2.2.2.2.2.2.2
  -- a rule is there
  have good : ∀ (X2 : Nat → Nat → Int32) (cs : Nat), (∀ x, x ≠ 32 → x ≠ 33 → x ≠ 37 → x ≠ 38 → x ≠ 39 → X2 x = zz_u I 2 1 0 x) → cs ≤ 40 → X2 32 3 = nI cs → X2 32 4 = 0 → (∀ e, zc_s e (X2 33) cs = [zq_val len (I 55) e]) → len ≤ 40 → zq_ok len (I 55) → (∀ X3 X4 X5 X6 D1 D2, zf_X11_readyLoom__32 N X2 J = some (0, X3, J) → zf_X4_shortest N X3 J = some (D1, X4, J) → zf_X11_readyLoom__28 N X4 J = some (0, X5, J) → zf_X4_shortest N X5 J = some (D2, X6, J) → zf_X11_law N I J = some (D1 - D2, zz_u X6 2 3 2, zz_u (zz_u J 4 0 D1.toInt64) 4 1 D2.toInt64)) → ∃ v I1 J1 I2 J2 F2, zf_X11_law N I J = some (v, I1, J1) ∧ zf_X12_law N I1 J1 F = some (v, I2, J2, F2) ∧ zi n I2 J2 F2 := fun X2 cs hX hcs h3 h4 hev l40 ok hA => by
    obtain ⟨X3, X4, X5, X6, m, D1, D2, a1, a2, a3, a4, e1, e2, d1, d2, hW, hr, ru, fr⟩ := zs_law hN h hX hcs h3 h4 hev
    have A1 := hA X3 X4 X5 X6 _ _ a1 a2 a3 a4
    have E : ∀ x, (x < 28 ∧ x ≠ 2) ∨ x = 29 ∨ 44 < x → X6 x = I x := fun x w => (fr x (by omega) (by omega) (by omega) (by omega) (by omega) (by omega) (by omega) (by omega) (by omega) (by omega) (by omega) (by omega) (by omega) (by omega)).trans (zu_ux (by omega))
    have Cx : ∀ x, (x < 28 ∧ x ≠ 2) ∨ x = 29 ∨ 44 < x → zz_u X6 2 3 2 x = I x := fun x w => by rw [zu_ux (by omega), E x w]
    obtain ⟨Z, F5, b1, b2, b3, b4, b5⟩ := zm_law hN hn (I := I) (C := zz_u X6 2 3 2) (J := zz_u (zz_u J 4 0 (nI D1).toInt64) 4 1 (nI D2).toInt64) hF h.1.2.2.2.2.1 hla (by rw [Cx 52 (by omega)]; exact h.1.2.1) l40 (by rw [Cx 52 (by omega)]; exact l52) (Cx 53 (by omega)) (Cx 54 (by omega)) (Cx 55 (by omega)) ok (m := m) ⟨ru.1, by rw [zu_ux (by omega)]; exact ru.2.1, by rw [zu_ux (by omega)]; exact ru.2.2.1, ru.2.2.2⟩ h.2.1.2.2.1 hW e1 e2
    have Z2 : ∀ i, Z 2 i = zz_u X6 2 3 2 2 i := fun i => by rw [b2 2 (by omega) (by omega) (by omega) (by omega) (by omega) (by omega)]
    have Zx : ∀ x, x ≠ 2 → x ≠ 52 → x ≠ 59 → x ≠ 60 → x ≠ 74 → x ≠ 75 → x ≠ 76 → Z x = X6 x := fun x c0 c1 c2 c3 c4 c5 c6 => by rw [b2 x c1 c2 c3 c4 c5 c6, zu_ux c0]
    refine ⟨_, _, _, _, _, _, A1, b1, zi_rulJ hE (fun a i hk n28 n29 n31 n58 n16 => ?_) (zi_tol2 ?_ (zz_us _ _ _ _) rfl rfl) ?_ b5⟩
    · by_cases e52 : a = 52
      · subst e52
        rw [zz_un (fun w => by rw [w.2] at hk; cases hk)]
        by_cases i4 : i = 4
        · subst i4; rw [b4]; rfl
        · rw [b3 i i4 (fun w => by subst w; cases hk) (fun w => by subst w; cases hk) (fun w => by subst w; cases hk) (fun w => by subst w; cases hk) (fun w => by subst w; cases hk) (fun w => by subst w; cases hk) (fun w => by subst w; cases hk), Cx 52 (by omega), zz_un (fun w => i4 w.2), zu_ux (by omega)]
      · rw [zu_ux e52, zu_ux e52]
        by_cases e2 : a = 2
        · subst e2
          rw [Z2 i, zz_un (fun w => by rw [w.2] at hk; cases hk), fr 2 (by omega) (by omega) (by omega) (by omega) (by omega) (by omega) (by omega) (by omega) (by omega) (by omega) (by omega) (by omega) (by omega) (by omega)]
        · rw [Zx a e2 e52 (fun w => by subst w; cases hk) (fun w => by subst w; cases hk) (fun w => by subst w; cases hk) (fun w => by subst w; cases hk) (fun w => by subst w; cases hk), fr a n28 (fun w => by subst w; cases hk) n31 (fun w => by subst w; cases hk) (fun w => by subst w; cases hk) (fun w => by subst w; cases hk) (fun w => by subst w; cases hk) (fun w => by subst w; cases hk) (fun w => by subst w; cases hk) (fun w => by subst w; cases hk) (fun w => by subst w; cases hk) (fun w => by subst w; cases hk) (fun w => by subst w; cases hk) (fun w => by subst w; cases hk)]
    · rw [zu_ux (by omega), Z2 3]; exact zz_us _ _ _ _
    · have q : ∀ x, x ≠ 2 → x ≠ 52 → x ≠ 59 → x ≠ 60 → x ≠ 74 → x ≠ 75 → x ≠ 76 → zz_u Z 52 6 2 x = X6 x := fun x c0 c1 c2 c3 c4 c5 c6 => by rw [zu_ux c1, Zx x c0 c1 c2 c3 c4 c5 c6]
      refine zc_rul hr ?_ (by rw [q 28 (by omega) (by omega) (by omega) (by omega) (by omega) (by omega) (by omega)]) (by rw [q 28 (by omega) (by omega) (by omega) (by omega) (by omega) (by omega) (by omega)]) (q 29 (by omega) (by omega) (by omega) (by omega) (by omega) (by omega) (by omega)) (q 31 (by omega) (by omega) (by omega) (by omega) (by omega) (by omega) (by omega)) (q 58 (by omega) (by omega) (by omega) (by omega) (by omega) (by omega) (by omega)) (q 54 (by omega) (by omega) (by omega) (by omega) (by omega) (by omega) (by omega))
      rw [zz_un (by omega), b3 16 (by omega) (by omega) (by omega) (by omega) (by omega) (by omega) (by omega) (by omega), zu_ux (by omega)]
  by_cases l0 : len = 0
  · -- the plain rule
    obtain ⟨X, e1, tk, e33⟩ := zs_plain32 hN (I := zz_u I 2 1 0) (J := J)
    refine good X 7 (fun x x1 x2 _ _ _ => tk.1 x x2 x1) (by omega) tk.2.2.1 tk.2.2.2 (fun e => ?_) (by omega) ⟨.inl l0, fun k hk => by omega⟩ (fun X3 X4 X5 X6 D1 D2 a1 a2 a3 a4 => ?_)
    · have c : ∀ j, j < 7 → X 33 j = I 0 j := fun j hj => by rw [e33 j hj, zu_ux (by omega)]
      obtain ⟨p0, p1, p2, p3, p4, p5, p6⟩ := h0
      rw [l0]
      exact zc_plain ((c 0 (by omega)).trans p0) ((c 1 (by omega)).trans p1) ((c 2 (by omega)).trans p2) ((c 3 (by omega)).trans p3) ((c 4 (by omega)).trans p4) ((c 5 (by omega)).trans p5) ((c 6 (by omega)).trans p6)
    · obtain ⟨M, rfl⟩ := zu_one N hN
      rw [zo_X11_law]
      unfold zb_X11_law_0
      refine zu_gn (fun w => w (by show I 2 1 = 0; rw [l2, l0]; rfl)) (zu_bd e1 (zu_bd a1 (zu_bd a2 (zu_bd a3 (zu_bd a4 ?_)))))
      dsimp only
      rw [zu_t2, zu_x2]
  obtain ⟨X, f1, cs⟩ := zs_rr hN (I := zz_u I 2 1 0) (J := J) hl ht (fun _ => 0)
  rcases cs with ⟨x, e1, bd⟩ | ⟨e1, fi⟩
  · -- a fault
    have A : zf_X11_law N I J = some (-10000 - nI x, X, J) := by
      obtain ⟨M, rfl⟩ := zu_one N hN
      rw [zo_X11_law]
      unfold zb_X11_law_0
      rw [show zv_X11_takeText I = nI len from l2, show zw_X11_takeText I = zz_u I 2 1 0 from rfl]
      exact zu_gd (show ¬ nI len = 0 from fun q => l0 ((nI_eq (b := 0) (by omega) (by omega)).mp q)) (zu_bd e1 (zu_gn (fun q => nI_pos (n := x) (by have := bd.1; omega) (by rw [show nI x = -1 from q]; decide)) rfl))
    have X52 : X 52 = I 52 := (f1 52 (by omega) (by omega) (by omega)).trans (zu_ux (by omega))
    obtain ⟨v, Y, r1, r2, r3, r4, r6⟩ := zm_rr hN (P := zz_u X 52 7 0) (J := J) (F := F) hl hb (by rw [zz_un (by omega), X52]; exact l52) (by rw [zu_ux (by omega), f1 55 (by omega) (by omega) (by omega), zu_ux (by omega)])
    obtain ⟨v0, yx⟩ : v = 0 ∧ Y 52 12 = nI x := by
      rcases r6 with ⟨w, _⟩ | ⟨_, u, w, _⟩ | ⟨_, w, y, w2, w3⟩
      · exact absurd w l0
      · exact (zg_bad_no bd w).elim
      · rw [zg_bad_fun bd w2]; exact ⟨w, w3⟩
    subst v0
    have Bq : zf_X12_law N X J F = some (-10000 - nI x, Y, J, zz_Fre F (some 55)) := by
      obtain ⟨M, rfl⟩ := zu_one N hN
      rw [zo_X12_law]
      unfold zb_X12_law_0
      refine zu_bd r1 (zu_gn (fun w => w rfl) ?_)
      show some (-10000 - Y 52 12, Y, J, zz_Fre F (some 55)) = _
      rw [yx]
    have Yx : ∀ a, a ≠ 52 → a ≠ 37 → a ≠ 38 → a ≠ 39 → Y a = zz_u I 2 1 0 a := fun a a1 a2 a3 a4 => by rw [r2 a a1, zu_ux a1, f1 a a2 a3 a4]
    have Y5 : ∀ i, i ≠ 4 → i ≠ 7 → i ≠ 9 → i ≠ 10 → i ≠ 11 → i ≠ 12 → i ≠ 17 → Y 52 i = I 52 i := fun i i1 i2 i3 i4 i5 i6 i7 => by rw [r3 i i1 i3 i4 i5 i6 i7, zz_un (fun w => i2 w.2), X52]
    refine ⟨_, _, _, _, _, _, A, Bq, zi_told hE (fun a i hk => ?_) (zc_tol hE.2.2.2.1 ?_ ?_ rfl rfl) hF⟩
    · by_cases e52 : a = 52
      · subst e52
        by_cases i4 : i = 4
        · subst i4; rw [r4]; rfl
        · rw [Y5 i i4 (fun w => by subst w; cases hk) (fun w => by subst w; cases hk) (fun w => by subst w; cases hk) (fun w => by subst w; cases hk) (fun w => by subst w; cases hk) (fun w => by subst w; cases hk), zz_un (fun w => i4 w.2), zu_ux (by omega)]
      · rw [Yx a e52 (fun w => by subst w; cases hk) (fun w => by subst w; cases hk) (fun w => by subst w; cases hk), zu_ux e52]
    · rw [Yx 2 (by omega) (by omega) (by omega) (by omega)]; rfl
    · rw [Y5 6 (by omega) (by omega) (by omega) (by omega) (by omega) (by omega) (by omega)]; rfl
  · -- a rule
    obtain ⟨l40, hok, c, hc, c2, hev⟩ := fi
    obtain ⟨X2, e2, tk, e33⟩ := zs_from32 hN (I := X) (J := J) hc c2
    rw [show min len 40 = len by omega] at hok hev
    refine good X2 c (fun x x1 x2 x3 x4 x5 => (tk.1 x x2 x1).trans (f1 x x3 x4 x5)) hc tk.2.2.1 tk.2.2.2 (fun e => ?_) l40 ⟨.inr hok, fun k hk => (hby k (by omega)).2⟩ (fun X3 X4 X5 X6 D1 D2 a1 a2 a3 a4 => ?_)
    · obtain ⟨v, w⟩ := hok e
      rw [zc_s_cong (c := X 38) c (fun j hj => e33 j hj), hev e v w]
      unfold zq_val
      rw [if_neg l0, w]
    · obtain ⟨M, rfl⟩ := zu_one N hN
      rw [zo_X11_law]
      unfold zb_X11_law_0
      rw [show zv_X11_takeText I = nI len from l2, show zw_X11_takeText I = zz_u I 2 1 0 from rfl]
      refine zu_gd (show ¬ nI len = 0 from fun q => l0 ((nI_eq (b := 0) (by omega) (by omega)).mp q)) (zu_bd e1 (zu_gd rfl (zu_bd e2 (zu_bd a1 (zu_bd a2 (zu_bd a3 (zu_bd a4 ?_)))))))
      dsimp only
      rw [zu_t2, zu_x2]
