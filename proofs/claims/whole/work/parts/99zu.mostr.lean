/-! THE MOST OVER ALL ORDERS: the reference's table -/
theorem zm_kno {N n : Nat} (hN : 100000 ≤ N) (hn : n ≤ 12) {I : Nat → Nat → Int32} {J : Nat → Nat → Int64} (h1 : I 52 1 = nI n) {p t : Nat} (hp : p ≤ 1) (ht : t < 4096) : zf_X12_knownOf N (nI p) (nI t) I J = some (zc_K (I 54) (I 53 (14 + p)) t n, I, J) := by
  have L : ∀ r s u, s + r = n → r < u → zl_X12_knownOf N u 13 0 (nI t) (zc_K (I 54) (I 53 (14 + p)) t s) (nI s) I J = some (zc_K (I 54) (I 53 (14 + p)) t n, I, J) := by
    intro r
    induction r with
    | zero =>
      intro s u hs hu
      obtain ⟨m, rfl⟩ : ∃ m, u = m + 1 := ⟨u - 1, by omega⟩
      obtain rfl : s = n := by omega
      rw [zo_X12_knownOf_13]
      unfold zb_X12_knownOf_13
      rw [h1, if_pos (nI_le (Nat.le_refl s) (by omega))]
    | succ r ih =>
      intro s u hs hu
      obtain ⟨m, rfl⟩ : ∃ m, u = m + 1 := ⟨u - 1, by omega⟩
      have i1 := ih (s + 1) m (by omega) (by omega)
      rw [zc_K_s] at i1
      rw [zo_X12_knownOf_13]
      unfold zb_X12_knownOf_13
      rw [h1, if_neg (nI_ge (show s < n by omega) (by omega)), zu_has (show s < 32 by omega), zc_tb ht, zm_kb (show s < 12 by omega), nI_1]
      by_cases b : t.testBit s = true
      · rw [if_pos b] at i1
        rw [if_pos b, if_neg (by decide)]
        exact zu_gd (fun w => by rw [zu_g4 (by omega)] at w; exact w) i1
      · rw [if_neg b] at i1
        rw [if_neg b, if_pos rfl]
        exact i1
  have l := L n 0 (N - 1) (by omega) (by omega)
  have e : (14 : Int32) + nI p = nI (14 + p) := nI_add 14 p
  obtain ⟨M, rfl⟩ := zu_one N hN
  rw [zo_X12_knownOf]
  unfold zb_X12_knownOf_0
  rw [e, nI_clamp (by omega)]
  exact zu_gd (fun w => w.elim (nI_pos (by omega)) (fun w => by omega)) l
theorem zm_che1 {N n c : Nat} {I : Nat → Nat → Int32} {J : Nat → Nat → Int64} (hn : n ≤ 12) (h1 : I 52 1 = nI n) (hc : c < 4096) (k0 l1 : Int32) : ∀ r s u, s + r = n → 2 * r < u → ∃ u', u ≤ u' + 2 * r + 1 ∧ zl_X12_cheers N u 41 l1 (nI c) (zc_K (I 54) k0 c s) (zc_G (I 54) k0 c s) (nI s) 0 I J = zl_X12_cheers N u' 91 l1 (nI c) 0 (zc_G (I 54) k0 c n) 0 0 I J := by
  intro r
  induction r with
  | zero =>
    intro s u hs hu
    obtain ⟨m, rfl⟩ : ∃ m, u = m + 1 := ⟨u - 1, by omega⟩
    obtain rfl : s = n := by omega
    refine ⟨m, by omega, ?_⟩
    rw [zo_X12_cheers_41]
    unfold zb_X12_cheers_41
    rw [h1, if_pos (nI_le (Nat.le_refl s) (by omega))]
  | succ r ih =>
    intro s u hs hu
    obtain ⟨m, rfl⟩ : ∃ m, u = m + 2 := ⟨u - 2, by omega⟩
    obtain ⟨u', a1, a2⟩ := ih (s + 1) m (by omega) (by omega)
    refine ⟨u', by omega, ?_⟩
    rw [zc_K_s, zc_G_s] at a2
    rw [zo_X12_cheers_41]
    unfold zb_X12_cheers_41
    rw [h1, if_neg (nI_ge (show s < n by omega) (by omega)), zu_has (show s < 32 by omega), zc_tb hc, zm_kb (show s < 12 by omega), zm_br (show s < 12 by omega)]
    by_cases b : c.testBit s = true
    · rw [if_pos b, if_pos b] at a2
      rw [if_pos b, if_pos (show ¬ (1 : Int32) = 0 by decide)]
      refine zu_gd (fun w => by rw [zu_g5 (by omega)] at w; exact w) (zu_gd (fun _ w => by rw [zu_g6 (by omega)] at w; exact w) (zu_gd (fun _ w => by rw [zu_g6 (by omega)] at w; exact w) (zu_gd (fun w => by rw [zu_g4 (by omega)] at w; exact w) ?_)))
      rw [zo_X12_cheers_82]
      unfold zb_X12_cheers_82
      rw [nI_1]
      exact a2
    · rw [if_neg b, if_neg b] at a2
      rw [if_neg b, if_neg (fun w => w rfl), zo_X12_cheers_82]
      unfold zb_X12_cheers_82
      rw [nI_1]
      exact a2
theorem zc_del32 {t s : Nat} (ht : t < 4096) (hs : s < 12) (hb : t.testBit s = true) : nI t &&& (((1 : Int32) <<< (nI s &&& 31)) ^^^ (-1)) = nI (t - 2 ^ s) := by
  apply b_ext
  intro i hi
  rw [b_and, b_not hi, b_bit s (by omega) hi, zc_tb ht, zc_tb (by have := zc_dlt hb; omega), zc_del hb]
theorem zm_che2 {N n : Nat} (hN : 100000 ≤ N) (hn : n ≤ 12) {I : Nat → Nat → Int32} {J : Nat → Nat → Int64} (h1 : I 52 1 = nI n) {p t : Nat} (hp : p ≤ 1) (ht : t < 4096) (x y : Int32) : ∀ r s u (X : Nat → Nat → Int32), s + r = n → 2 * r < u → (∀ z, z ≠ 77 → X z = I z) → (∀ i, i ≠ t → X 77 i = I 77 i) → zc_M n (fun j => t.testBit j = true ∧ j < s) (zc_V (I 77) (zc_br (I 54) (I 53 (14 + p)) n) t) (X 77 t) → ∃ X' u', u ≤ u' + 2 * r + 1 ∧ zl_X12_cheers N u 120 (nI p) x 0 y (nI t) (nI s) X J = zl_X12_cheers N u' 197 (nI p) x 0 y (nI t) 0 X' J ∧ (∀ z, z ≠ 77 → X' z = I z) ∧ (∀ i, i ≠ t → X' 77 i = I 77 i) ∧ zc_M n (fun j => t.testBit j = true) (zc_V (I 77) (zc_br (I 54) (I 53 (14 + p)) n) t) (X' 77 t) := by
  intro r
  induction r with
  | zero =>
    intro s u X hs hu hX h7 hM
    obtain ⟨m, rfl⟩ : ∃ m, u = m + 1 := ⟨u - 1, by omega⟩
    obtain rfl : s = n := by omega
    refine ⟨X, m, by omega, ?_, hX, h7, zc_Mc hM (fun j hj => ⟨fun q => ⟨q, hj⟩, fun q => q.1⟩) (fun _ _ _ => rfl)⟩
    rw [zo_X12_cheers_120]
    unfold zb_X12_cheers_120
    rw [hX 52 (by omega), h1, if_pos (nI_le (Nat.le_refl s) (by omega))]
  | succ r ih =>
    intro s u X hs hu hX h7 hM
    obtain ⟨m, rfl⟩ : ∃ m, u = m + 2 := ⟨u - 2, by omega⟩
    rw [zo_X12_cheers_120]
    unfold zb_X12_cheers_120
    rw [hX 52 (by omega), h1, if_neg (nI_ge (show s < n by omega) (by omega)), zu_has (show s < 32 by omega), zc_tb ht]
    by_cases b : t.testBit s = true
    · have dl := zc_dlt b
      rw [if_pos b, if_neg (by decide), zc_del32 ht (by omega) b, nI_clamp (by omega), nI_clamp (by omega)]
      have kk := zm_kno hN hn (I := X) (J := J) (by rw [hX 52 (by omega)]; exact h1) hp (t := t - 2 ^ s) (by omega)
      rw [hX 54 (by omega), hX 53 (by omega)] at kk
      obtain ⟨X', u', a1, a2, a3, a4, a5⟩ := ih (s + 1) m (zz_u X 77 t (zz_max (X 77 t) (X 77 (t - 2 ^ s) + zc_br (I 54) (I 53 (14 + p)) n s (t - 2 ^ s)))) (by omega) (by omega) (fun z hz => by rw [zu_ux hz]; exact hX z hz) (fun i hi => by rw [zz_un (fun w => hi w.2)]; exact h7 i hi) (by
        rw [zz_us]
        refine zc_M1 hM (show s < n by omega) (fun j hj => ⟨fun q => ?_, fun q => ?_⟩) (fun _ _ _ => rfl) ?_
        · by_cases e : j = s
          · exact .inr e
          · exact .inl ⟨q.1, by omega⟩
        · rcases q with q | q
          · exact ⟨q.1, by omega⟩
          · subst q; exact ⟨b, by omega⟩
        · unfold zc_V
          rw [h7 (t - 2 ^ s) (by omega)])
      refine ⟨X', u', by omega, ?_, a3, a4, a5⟩
      refine zu_gd (fun w => w.elim (nI_pos (by omega)) (fun w => by omega)) (zu_gd (fun w => w.elim (nI_pos (by omega)) (fun w => by omega)) (zu_bd kk ?_))
      dsimp only
      rw [zm_br (show s < 12 by omega)]
      refine zu_gd (fun w => by rw [zu_g5 (by omega)] at w; exact w) (zu_gd (fun _ w => by rw [zu_g6 (by omega)] at w; exact w) (zu_gd (fun _ w => by rw [zu_g6 (by omega)] at w; exact w) ?_))
      rw [zo_X12_cheers_191]
      unfold zb_X12_cheers_191
      rw [nI_1, hX 54 (by omega)]
      exact a2
    · obtain ⟨X', u', a1, a2, a3, a4, a5⟩ := ih (s + 1) m X (by omega) (by omega) hX h7 (zc_Mc hM (fun j hj => ⟨fun q => ⟨q.1, by
        by_cases e : j = s
        · subst e; exact (b q.1).elim
        · omega⟩, fun q => ⟨q.1, by omega⟩⟩) (fun _ _ _ => rfl))
      refine ⟨X', u', by omega, ?_, a3, a4, a5⟩
      rw [if_neg b, if_pos rfl, zo_X12_cheers_191]
      unfold zb_X12_cheers_191
      rw [nI_1]
      exact a2
theorem zm_che3 {N n : Nat} (hN : 100000 ≤ N) (hn : n ≤ 12) {I : Nat → Nat → Int32} {J : Nat → Nat → Int64} (h1 : I 52 1 = nI n) {p c : Nat} (hp : p ≤ 1) (hc : c < 4096) (y : Int32) : ∀ r t u (X : Nat → Nat → Int32), t + r = c + 1 → 27 * r < u → (∀ z, z ≠ 77 → X z = I z) → (∀ t', t' < t → zc_sb t' c → zc_M n (fun j => t'.testBit j = true) (zc_V (X 77) (zc_br (I 54) (I 53 (14 + p)) n) t') (X 77 t')) → ∃ X' u', u ≤ u' + 27 * r ∧ zl_X12_cheers N u 91 (nI p) (nI c) 0 y (nI t) 0 X J = zl_X12_cheers N u' 91 (nI p) (nI c) 0 y (nI (c + 1)) 0 X' J ∧ (∀ z, z ≠ 77 → X' z = I z) ∧ ∀ t', t' < c + 1 → zc_sb t' c → zc_M n (fun j => t'.testBit j = true) (zc_V (X' 77) (zc_br (I 54) (I 53 (14 + p)) n) t') (X' 77 t') := by
  intro r
  induction r with
  | zero =>
    intro t u X ht hu hX hM
    obtain rfl : t = c + 1 := by omega
    exact ⟨X, u, by omega, rfl, hX, hM⟩
  | succ r ih =>
    intro t u X ht hu hX hM
    obtain ⟨m, rfl⟩ : ∃ m, u = m + 2 := ⟨u - 2, by omega⟩
    have t12 : t < 4096 := by omega
    rw [zo_X12_cheers_91]
    unfold zb_X12_cheers_91
    rw [if_neg (nI_nlt (show t ≤ c by omega) (by omega))]
    by_cases q : zc_sb t c
    · rw [if_pos ((zc_sbE t12 hc).mpr q), nI_clamp (by omega)]
      obtain ⟨X1, u1, a1, a2, a3, a4, a5⟩ := zm_che2 hN hn (I := zz_u X 77 t 0) (J := J) (by rw [zu_ux (by omega), hX 52 (by omega)]; exact h1) hp t12 (nI c) y n 0 (m + 1) (zz_u X 77 t 0) (by omega) (by omega) (fun _ _ => rfl) (fun _ _ => rfl) (by rw [zz_us]; exact zc_M0 (fun k _ w => by omega))
      rw [show zz_u X 77 t 0 54 = I 54 by rw [zu_ux (by omega), hX 54 (by omega)], show zz_u X 77 t 0 53 = I 53 by rw [zu_ux (by omega), hX 53 (by omega)]] at a5
      have o7 : ∀ i, i ≠ t → X1 77 i = X 77 i := fun i hi => by rw [a4 i hi, zz_un (fun w => hi w.2)]
      have low : ∀ {A B : Nat → Int32} {t'}, (∀ i, i < t' → A i = B i) → ∀ j, t'.testBit j = true → zc_V A (zc_br (I 54) (I 53 (14 + p)) n) t' j = zc_V B (zc_br (I 54) (I 53 (14 + p)) n) t' j := fun e j hj => by
        unfold zc_V
        rw [e _ (zc_dlt hj)]
      obtain ⟨X', u', b1, b2, b3, b4⟩ := ih (t + 1) (u1 - 1) X1 (by omega) (by omega) (fun z hz => by rw [a3 z hz, zu_ux hz]; exact hX z hz) (fun t' ht' hs => by
        by_cases e : t' = t
        · subst e
          exact zc_Mc a5 (fun _ _ => Iff.rfl) (fun j _ hj => low (fun i hi => a4 i (by omega)) j hj)
        · rw [o7 t' e]
          exact zc_Mc (hM t' (by omega) hs) (fun _ _ => Iff.rfl) (fun j _ hj => low (fun i hi => o7 i (by omega)) j hj))
      refine ⟨X', u', by omega, zu_gd (fun w => w.elim (nI_pos (by omega)) (fun w => by omega)) (a2.trans ?_), b3, b4⟩
      obtain ⟨w, hw⟩ : ∃ w, u1 = w + 1 := ⟨u1 - 1, by omega⟩
      rw [hw, zo_X12_cheers_197]
      unfold zb_X12_cheers_197
      rw [nI_1, show w = u1 - 1 by omega]
      exact b2
    · obtain ⟨X', u', b1, b2, b3, b4⟩ := ih (t + 1) m X (by omega) (by omega) hX (fun t' ht' hs => by
        by_cases e : t' = t
        · subst e; exact (q hs).elim
        · exact hM t' (by omega) hs)
      refine ⟨X', u', by omega, ?_, b3, b4⟩
      rw [if_neg (fun w => q ((zc_sbE t12 hc).mp w)), zo_X12_cheers_197]
      unfold zb_X12_cheers_197
      rw [nI_1]
      exact b2
theorem zy_cheers {N n : Nat} (hN : 200000 ≤ N) {I : Nat → Nat → Int32} {J : Nat → Nat → Int64} {F : zz_F} (h : zi n I J F) (x : Int32) : ∃ v I1 J1 F1 I2 J2, zf_X11_cheers N x I J F = some (v, I1, J1, F1) ∧ zf_X12_cheers N x I1 J1 = some (v, I2, J2) ∧ zi n I2 J2 F1 ∧ F1.1 ≤ F.1 + 1 ∧ F1.2.1 ≤ F.2.1 + 8192 := by
  have hn := h.1.1
  have N1 : 100000 ≤ N := by omega
  rcases zu_bet x 1 (by omega) with q | ⟨p, hp, rfl⟩
  · refine ⟨-1, I, J, F, zz_u I 52 7 0, J, ?_, ?_, zi_q0 h, by omega, by omega⟩
    · obtain ⟨M, rfl⟩ := zu_one N N1
      rw [zo_X11_cheers]
      exact zu_gn (fun w => w (zs_isPlayN q)) rfl
    · obtain ⟨M, rfl⟩ := zu_one N N1
      rw [zo_X12_cheers]
      exact zu_gn (fun w => w (zu_inN 1 q)) rfl
  · have ip : ¬ zv_X11_isPlay (nI p) = 0 := by rw [zs_isPlayY hp]; decide
    have im : ¬ zv_X12_isPlay (nI p) = 0 := by
      show ¬ zv_X12_in (nI p) 0 (nI 1) = 0
      rw [zu_inY (by omega) hp]; decide
    have ow : I 8 2 &&& zv_X9_scenesOf I (nI p) = zh_P n (I 54) (I 8 2) (nI p) := by
      obtain rfl | rfl : p = 0 ∨ p = 1 := by omega
      · exact zs_of0 h.1 (I 8 2)
      · exact zs_of1 h.1 (I 8 2)
    have big : ∀ i, n ≤ i → bt (zh_P n (I 54) (I 8 2) (nI p)) i = false := fun i hi => zu_set_out (by omega) hi
    obtain ⟨c, hc, ec⟩ : ∃ c, c < 4096 ∧ zh_P n (I 54) (I 8 2) (nI p) = nI c := ⟨_, (zu_nat (fun i a _ => big i (by omega))).1, (zu_nat (fun i a _ => big i (by omega))).2⟩
    have cn : c < 2 ^ n := by
      apply Nat.lt_pow_two_of_testBit
      intro i hi
      rw [← zc_tb hc, ← ec]
      exact big i hi
    have kn : zz_kn I (nI p) = I 53 (14 + p) := by
      obtain rfl | rfl : p = 0 ∨ p = 1 := by omega
      · exact h.2.1.2.2.2.2.2.1
      · exact h.2.1.2.2.2.2.2.2.1
    obtain ⟨A, X, J', F', m1, m2, m3, m4, m7, mine, m5, m6⟩ := zs_mb N1 h hc (ow.trans ec) kn
    have bio := zs_bio N1 (J := J) h.1 hc (ow.trans ec) kn
    have A1 : zf_X11_cheers N (nI p) I J F = some (zc_G (I 54) (I 53 (14 + p)) c n, zz_u X 2 3 1, zz_u J' 4 0 (A (2 ^ zc_cn c n - 1)).toInt64, F') := by
      obtain ⟨M, rfl⟩ := zu_one N N1
      rw [zo_X11_cheers]
      refine zu_gd ip (zu_bd bio (zu_bd m1 ?_))
      rw [zu_t1, zu_x1]
    generalize hJ1 : zz_u J' 4 0 (A (2 ^ zc_cn c n - 1)).toInt64 = J1 at *
    have Y : ∀ y, y ≠ 47 → y ≠ 48 → y < 84 → y ≠ 2 → y ≠ 52 → zz_u (zz_u X 2 3 1) 52 7 0 y = I y := fun y a b c d e => by rw [zu_ux e, zu_ux d, m2 y a b c]
    have Y1 : zz_u (zz_u X 2 3 1) 52 7 0 52 1 = nI n := by rw [zz_un (by omega), zu_ux (by omega), m2 52 (by omega) (by omega) (by omega)]; exact h.1.2.1
    have w1 := zm_where N1 hn (I := zz_u (zz_u X 2 3 1) 52 7 0) (J := J1) Y1 0
    rw [Y 53 (by omega) (by omega) (by omega) (by omega) (by omega), show zh_W n (I 53) 0 = I 8 2 from h.2.1.2.2.1.symm] at w1
    have w2 := zm_ofPlay N1 hn (I := zz_u (zz_u X 2 3 1) 52 7 0) (J := J1) Y1 (I 8 2) (nI p)
    rw [Y 54 (by omega) (by omega) (by omega) (by omega) (by omega), ec] at w2
    obtain ⟨u1, e1, e2⟩ := zm_che1 (N := N) (I := zz_u (zz_u X 2 3 1) 52 7 0) (J := J1) hn Y1 hc (I 53 (14 + p)) (nI p) n 0 (N - 1) (by omega) (by omega)
    obtain ⟨R, u2, r1, r2, r3, r4⟩ := zm_che3 N1 hn (I := zz_u (zz_u X 2 3 1) 52 7 0) (J := J1) Y1 hp hc (zc_G (I 54) (I 53 (14 + p)) c n) (c + 1) 0 u1 (zz_u (zz_u X 2 3 1) 52 7 0) (by omega) (by omega) (fun _ _ => rfl) (fun t' ht' => by omega)
    rw [Y 54 (by omega) (by omega) (by omega) (by omega) (by omega)] at e2 r4
    rw [Y 53 (by omega) (by omega) (by omega) (by omega) (by omega)] at r4
    have same := zc_same (n := n) (c := c) (A := A) (R := R 77) (g := zc_br (I 54) (I 53 (14 + p)) n) m5 m6 (fun t ht => r4 t (Nat.lt_succ_of_le (zc_le ht)) ht) (2 ^ zc_cn c n - 1) (by have := Nat.two_pow_pos (zc_cn c n); omega)
    rw [zc_pha cn] at same
    have B1 : zf_X12_cheers N (nI p) (zz_u X 2 3 1) J1 = some (zc_G (I 54) (I 53 (14 + p)) c n, zz_u R 52 6 1, zz_u J1 56 0 (R 77 c).toInt64) := by
      have e : (14 : Int32) + nI p = nI (14 + p) := nI_add 14 p
      have st : zf_X12_cheers N (nI p) (zz_u X 2 3 1) J1 = zb_X12_cheers_0 N (zl_X12_cheers N (N - 1)) (nI p) 0 0 0 0 0 (zz_u X 2 3 1) J1 := by
        obtain ⟨M, rfl⟩ := zu_one N N1
        exact zo_X12_cheers M (nI p) (zz_u X 2 3 1) J1
      rw [st]
      unfold zb_X12_cheers_0
      refine zu_gd im (zu_bd w1 (zu_bd w2 ?_))
      dsimp only
      rw [e, nI_clamp (by omega), show zz_u X 2 3 1 53 = I 53 by rw [zu_ux (by omega), m2 53 (by omega) (by omega) (by omega)]]
      refine zu_gd (fun w => w.elim (nI_pos (by omega)) (fun w => by omega)) (e2.trans (r2.trans ?_))
      obtain ⟨w, hw⟩ : ∃ w, u2 = w + 1 := ⟨u2 - 1, by omega⟩
      rw [hw, zo_X12_cheers_91]
      unfold zb_X12_cheers_91
      rw [if_pos (nI_lt (Nat.lt_succ_self c) (by omega)), nI_clamp (by omega), zu_m1, zu_y1]
      exact zu_gd (fun w => w.elim (nI_pos (by omega)) (fun w => by omega)) (zu_gd zu_20_0 rfl)
    refine ⟨_, _, _, _, _, _, A1, B1, zi_told h (fun a i hk => ?_) (zi_tol1 ?_ (zz_us _ _ _ _) ?_) m4, m7⟩
    · have a84 : a < 84 := by
        apply Classical.byContradiction
        intro w
        rw [show zk_k a i = false by unfold zk_k; split <;> first | rfl | omega] at hk
        cases hk
      rw [show zz_u R 52 6 1 a i = R a i from zz_un (fun w => by rw [w.1, w.2] at hk; cases hk), r3 a (fun w => by subst w; cases hk), zz_un (fun w => by rw [w.1, w.2] at hk; cases hk), zz_un (fun w => by rw [w.1, w.2] at hk; cases hk), m2 a (fun w => by subst w; cases hk) (fun w => by subst w; cases hk) a84]
    · rw [zu_ux (by omega), r3 2 (by omega), zu_ux (by omega), zz_us]; rfl
    · rw [zu_ux (by omega), zz_us, ← hJ1, zz_us, same]
