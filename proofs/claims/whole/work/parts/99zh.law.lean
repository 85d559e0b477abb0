/-! LAW -/
theorem zw_c_cong {m : Nat} {t t' : Nat → Int32} (h : zq_h m t = zq_h m t') (f : Nat → Int32) (L : Int32) : zw_c m t f L = zw_c m t' f L := by
  have v : ∀ e, zq_val m t e = zq_val m t' e := fun e => by
    unfold zq_val
    rw [zq_g_c h]
  have g : ∀ a b, zq_chg m t a b = zq_chg m t' a b := fun a b => by
    unfold zq_chg
    rw [v]
  funext x y
  unfold zw_c
  rw [g, g]
theorem zm_cp9 {N : Nat} {J : Nat → Nat → Int64} {F : zz_F} (hF : zz_ru F = 59) {len : Nat} (hl : len ≤ 40) {l2 l4 : Int32} {a3 : Nat} : ∀ k i u (Y : Nat → Nat → Int32), i + k = len → k < u → (∀ j, j < len → ∃ b, b < 256 ∧ Y 55 j = (nI b).toInt8.toInt32) → (∀ j, j < i → Y 59 j = Y 55 j) → ∃ Y', zl_X12_law N u 63 (nI len) l2 a3 l4 (nI i) Y J F = zl_X12_law N (u - k) 63 (nI len) l2 a3 l4 (nI len) Y' J F ∧ (∀ x, x ≠ 59 → Y' x = Y x) ∧ ∀ j, j < len → Y' 59 j = Y 55 j := by
  intro k
  induction k with
  | zero =>
    intro i u Y hi hu hb hj
    obtain rfl : i = len := by omega
    exact ⟨Y, rfl, fun _ _ => rfl, hj⟩
  | succ k ih =>
    intro i u Y hi hu hb hj
    obtain ⟨w, rfl⟩ : ∃ w, u = w + 1 := ⟨u - 1, by omega⟩
    obtain ⟨b, hb1, hb2⟩ := hb i (by omega)
    rw [zo_X12_law_63]
    unfold zb_X12_law_63
    rw [if_neg (nI_ge (show i < len by omega) (by omega)), if_pos (nI_in (show i < 80 by omega) (by omega)), hF]
    rw [if_pos (show zz_XK F.2.2.1 59 = 12 from rfl), if_pos (show ¬ (nI i < 0 ∨ zz_XL F.2.2.2.2.1 F.2.2.2.1 59 ≤ (nI i).toNatClampNeg) from nI_in (show i < 40 by omega) (show 40 < 2 ^ 31 by omega))]
    rw [if_pos (show zz_XK F.2.2.1 59 = 12 from rfl), nI_clamp (by omega), hb2, zu_bb b hb1, ← hb2, nI_1]
    obtain ⟨Y', g1, g2, g3⟩ := ih (i + 1) w (zz_u Y 59 i (Y 55 i)) (by omega) (by omega) (fun j hj2 => by rw [zu_ux (by omega)]; exact hb j hj2) (fun j hj2 => by
      rw [zu_ux (show 55 ≠ 59 by omega)]
      by_cases q : j = i
      · rw [q, zz_us]
      · rw [zz_un (fun w => q w.2)]; exact hj j (by omega))
    exact ⟨Y', by rw [g1, show w + 1 - (k + 1) = w - k by omega], fun x hx => (g2 x hx).trans (zu_ux hx), fun j hj2 => (g3 j hj2).trans (by rw [zu_ux (by omega)])⟩
/-- the class, behind taking a rule -/
theorem zs_law {N n : Nat} (hN : 100000 ≤ N) {I : Nat → Nat → Int32} {J : Nat → Nat → Int64} {F : zz_F} (h : zi n I J F) {X2 : Nat → Nat → Int32} (hX : ∀ x, x ≠ 32 → x ≠ 33 → x ≠ 37 → x ≠ 38 → x ≠ 39 → X2 x = zz_u I 2 1 0 x) {len cs : Nat} {tx : Nat → Int32} (hcs : cs ≤ 40) (h3 : X2 32 3 = nI cs) (h4 : X2 32 4 = 0) (hev : ∀ e, zc_s e (X2 33) cs = [zq_val len tx e]) : ∃ X3 X4 X5 X6 m D1 D2, zf_X11_readyLoom__32 N X2 J = some (0, X3, J) ∧ zf_X4_shortest N X3 J = some (nI D1, X4, J) ∧ zf_X11_readyLoom__28 N X4 J = some (0, X5, J) ∧ zf_X4_shortest N X5 J = some (nI D2, X6, J) ∧ D1 = zw_D min (zw_p n (I 54) (I 8 2) 0) (zw_p n (I 54) (I 8 2) 1) (zw_a n (I 54) (I 8 2) 0) (zw_a n (I 54) (I 8 2) 1) (zw_c len tx (I 54) (I 53 13)) 0 0 12 ∧ D2 = zw_D min (zw_p n (I 54) (I 8 2) 0) (zw_p n (I 54) (I 8 2) 1) (zw_a n (I 54) (I 8 2) 0) (zw_a n (I 54) (I 8 2) 1) (zw_c m (I 58) (I 54) (I 53 13)) 0 0 12 ∧ D1 ≤ 1296 ∧ D2 ≤ 1296 ∧ (∀ x y, (x = 12 ∨ zw_in (zw_p n (I 54) (I 8 2) 0) (zw_p n (I 54) (I 8 2) 1) (zw_a n (I 54) (I 8 2) 0) (zw_a n (I 54) (I 8 2) 1) x) → zw_in (zw_p n (I 54) (I 8 2) 0) (zw_p n (I 54) (I 8 2) 1) (zw_a n (I 54) (I 8 2) 0) (zw_a n (I 54) (I 8 2) 1) y → zw_c len tx (I 54) (I 53 13) x y ≤ 108 ∧ zw_c m (I 58) (I 54) (I 53 13) x y ≤ 108) ∧ zi_rul n X6 ∧ zr_ru m (I 58) X6 F ∧ ∀ x, x ≠ 28 → x ≠ 30 → x ≠ 31 → x ≠ 32 → x ≠ 33 → x ≠ 34 → x ≠ 35 → x ≠ 37 → x ≠ 38 → x ≠ 39 → x ≠ 41 → x ≠ 42 → x ≠ 43 → x ≠ 44 → X6 x = zz_u I 2 1 0 x := by
  have hF := h.2.2.2.2.2.2.2.2
  have x5 : X2 5 = I 5 := (hX 5 (by omega) (by omega) (by omega) (by omega) (by omega)).trans (zu_ux (by omega))
  have x6 : X2 6 = I 6 := (hX 6 (by omega) (by omega) (by omega) (by omega) (by omega)).trans (zu_ux (by omega))
  have x7 : X2 7 = I 7 := (hX 7 (by omega) (by omega) (by omega) (by omega) (by omega)).trans (zu_ux (by omega))
  have x8 : X2 8 = I 8 := (hX 8 (by omega) (by omega) (by omega) (by omega) (by omega)).trans (zu_ux (by omega))
  have x52 : X2 52 = I 52 := (hX 52 (by omega) (by omega) (by omega) (by omega) (by omega)).trans (zu_ux (by omega))
  have x53 : X2 53 = I 53 := (hX 53 (by omega) (by omega) (by omega) (by omega) (by omega)).trans (zu_ux (by omega))
  have x54 : X2 54 = I 54 := (hX 54 (by omega) (by omega) (by omega) (by omega) (by omega)).trans (zu_ux (by omega))
  have sc2 : zi_sc n X2 := zc_sc h.1 (by rw [x5]) x6 x7 (by rw [x52]) x54
  have hl : I 53 13 = -1 ∨ ∃ s, s < n ∧ I 53 13 = nI s := h.2.1.2.2.2.2.2.2.2.2.2.2
  have l8 : I 8 1 = I 53 13 := h.2.1.2.1
  obtain ⟨X3, a1, a2, a3⟩ := zs_readyB hN (J := J) sc2 (by rw [x8, x53]; exact l8) (by rw [x53]; exact hl) hcs h3 h4 hev
  rw [x54, x8, x53] at a2
  obtain ⟨X4, b1, b2, b3⟩ := zs_short hN (J := J) a2
  have d1 := zw_D0le a2
  have f4 : ∀ x, x ≠ 32 → x ≠ 33 → x ≠ 34 → x ≠ 35 → x ≠ 37 → x ≠ 38 → x ≠ 39 → x ≠ 41 → x ≠ 42 → x ≠ 43 → x ≠ 44 → X4 x = zz_u I 2 1 0 x := fun x c1 c2 c3 c4 c5 c6 c7 c8 c9 c10 c11 => by rw [b1 x c11, a3 x c1 c3 c4 c8 c9 c10, hX x c1 c2 c5 c6 c7]
  have g4 : ∀ x, x ≠ 2 → x ≠ 32 → x ≠ 33 → x ≠ 34 → x ≠ 35 → x ≠ 37 → x ≠ 38 → x ≠ 39 → x ≠ 41 → x ≠ 42 → x ≠ 43 → x ≠ 44 → X4 x = I x := fun x c0 c1 c2 c3 c4 c5 c6 c7 c8 c9 c10 c11 => (f4 x c1 c2 c3 c4 c5 c6 c7 c8 c9 c10 c11).trans (zu_ux c0)
  have E : ∀ x, (x < 32 ∧ x ≠ 2) ∨ 44 < x → X4 x = I x := fun x w => g4 x (by omega) (by omega) (by omega) (by omega) (by omega) (by omega) (by omega) (by omega) (by omega) (by omega) (by omega) (by omega)
  have sc4 : zi_sc n X4 := zc_sc h.1 (by rw [E 5 (by omega)]) (E 6 (by omega)) (E 7 (by omega)) (by rw [E 52 (by omega)]) (E 54 (by omega))
  have ru4 : zi_rul n X4 := zc_rul h.2.2.2.2.2.2.2.1 (by rw [E 52 (by omega)]) (by rw [E 28 (by omega)]) (by rw [E 28 (by omega)]) (E 29 (by omega)) (E 31 (by omega)) (E 58 (by omega)) (E 54 (by omega))
  obtain ⟨X5, m, c1, c2, c3, c4, c5, c6⟩ := zs_readyG hN (J := J) sc4 ru4 hF (by rw [E 8 (by omega), E 53 (by omega)]; exact l8) (by rw [E 53 (by omega)]; exact hl)
  rw [E 54 (by omega), E 8 (by omega), E 53 (by omega), E 58 (by omega)] at c4
  rw [E 58 (by omega)] at c3
  obtain ⟨X6, k1, k2, k3⟩ := zs_short hN (J := J) c4
  have d2 := zw_D0le c4
  exact ⟨X3, X4, X5, X6, m, _, _, a1, b3, c1, k3, rfl, rfl, d1, d2, fun x y hx hy => ⟨zw_W a2 x y hx hy, zw_W c4 x y hx hy⟩, zc_rul c2 (by rw [k1 52 (by omega)]) (by rw [k1 28 (by omega)]) (by rw [k1 28 (by omega)]) (k1 29 (by omega)) (k1 31 (by omega)) (k1 58 (by omega)) (k1 54 (by omega)), ⟨c3.1, by rw [k1 52 (by omega)]; exact c3.2.1, by rw [k1 58 (by omega)]; exact c3.2.2.1, c3.2.2.2⟩, fun x e1 e2 e3 e4 e5 e6 e7 e8 e9 e10 e11 e12 e13 e14 => by rw [k1 x e14, c5 x e1 e2 e3 e11 e12 e13, f4 x e4 e5 e6 e7 e8 e9 e10 e11 e12 e13 e14]⟩
