/-! TURN AND WEAVES -/
theorem zw_zk {X C P R Z : Nat → Nat → Int32} (c : ∀ y, y ≠ 2 → y ≠ 41 → y ≠ 44 → y ≠ 45 → C y = X y) (c2 : ∀ i, i ≠ 3 → C 2 i = X 2 i) (hP : ∀ y, y ≠ 52 → y ≠ 72 → P y = C y) (hP5 : ∀ i, i ≠ 6 → i ≠ 7 → P 52 i = C 52 i) (r : zw_fr P R) (z : ∀ y, y ≠ 52 → Z y = R y) (z5 : ∀ i, i ≠ 6 → Z 52 i = R 52 i) : zk X Z := fun a i hk => by
  by_cases a52 : a = 52
  · subst a52
    rw [z5 i (fun w => by subst w; cases hk), r.2 i (fun w => by subst w; cases hk) (fun w => by subst w; cases hk) (fun w => by subst w; cases hk) (fun w => by subst w; cases hk) (fun w => by subst w; cases hk) (fun w => by subst w; cases hk) (fun w => by subst w; cases hk) (fun w => by subst w; cases hk) (fun w => by subst w; cases hk), hP5 i (fun w => by subst w; cases hk) (fun w => by subst w; cases hk), c 52 (by omega) (by omega) (by omega) (by omega)]
  · rw [z a a52, r.1 a (fun w => by subst w; cases hk) a52 (fun w => by subst w; cases hk) (fun w => by subst w; cases hk) (fun w => by subst w; cases hk) (fun w => by subst w; cases hk) (fun w => by subst w; cases hk) (fun w => by subst w; cases hk) (fun w => by subst w; cases hk) (fun w => by subst w; cases hk), hP a a52 (fun w => by subst w; cases hk)]
    by_cases a2 : a = 2
    · subst a2
      exact c2 i (fun w => by subst w; cases hk)
    · rw [c a a2 (fun w => by subst w; cases hk) (fun w => by subst w; cases hk) (fun w => by subst w; cases hk)]
theorem zw_fr2 {P R : Nat → Nat → Int32} (r : zw_fr P R) : R 2 = P 2 := r.1 2 (by omega) (by omega) (by omega) (by omega) (by omega) (by omega) (by omega) (by omega) (by omega) (by omega)
section
variable {p q : Nat} {A B : Nat → Nat} {W : Nat → Nat → Nat} {X Y : Int32} {ah : Nat → Int32}
/-- by the first play, from the beginning -/
theorem zw_g6r (hW : ∀ x y, (x = 12 ∨ zw_in p q A B x) → zw_in p q A B y → W x y ≤ 108) (pq : p + q ≤ 12) : (0 < p → (zw_go p q A B W X Y (p + q) 0 0 12 0 [] 0 0 (zw_a0 ah)).2.2.2.2.2.1 = nI (W 12 (A 0) + zw_D min p q A B W 1 0 (A 0))) ∧ (0 < q → (zw_go p q A B W X Y (p + q) 0 0 12 0 [] 0 0 (zw_a0 ah)).2.2.2.2.2.2.1 = nI (W 12 (B 0) + zw_D min p q A B W 0 1 (B 0))) := by
  by_cases z : p + q = 0
  · exact ⟨fun h => by omega, fun h => by omega⟩
  obtain ⟨r, hr⟩ : ∃ r, p + q = r + 1 := ⟨p + q - 1, by omega⟩
  rw [hr]
  by_cases h1 : 0 < p
  · have i0 : zw_in p q A B (A 0) := .inl ⟨0, h1, rfl⟩
    have w0 := hW 12 (A 0) (.inl rfl) i0
    have b0 := zw_D_le (w := 0) hW _ 1 0 (A 0) rfl (.inr i0)
    rw [show zw_op 0 = min from rfl] at b0
    obtain ⟨a1, a2⟩ := zw_g6 (X := X) (Y := Y) hW r 1 0 (A 0) (0 + W 12 (A 0)) ([] ++ [0]) (0 + W 12 (A 0)) 0 (zw_n2 (zw_n1 (zw_a0 ah) (0 + 0) 0) (A 0) (0 + 0) (0 + W 12 (A 0))) 1000000 1000000 0 (by omega) (.inr i0) (by omega) (by omega) (by omega) (by omega) rfl rfl rfl (by omega)
    rw [if_pos rfl] at a1
    rw [if_neg (by omega)] at a2
    by_cases h2 : 0 < q
    · have i1 : zw_in p q A B (B 0) := .inr ⟨0, h2, rfl⟩
      have w1 := hW 12 (B 0) (.inl rfl) i1
      have b1 := zw_D_le (w := 0) hW _ 0 1 (B 0) rfl (.inr i1)
      rw [show zw_op 0 = min from rfl] at b1
      obtain ⟨c1, c2⟩ := zw_g6 (X := X) (Y := Y) hW r 0 1 (B 0) (0 + W 12 (B 0)) ([] ++ [1]) 0 (0 + W 12 (B 0)) (zw_n2 (zw_go p q A B W X Y r 1 0 (A 0) (0 + W 12 (A 0)) ([] ++ [0]) (0 + W 12 (A 0)) 0 (zw_n2 (zw_n1 (zw_a0 ah) (0 + 0) 0) (A 0) (0 + 0) (0 + W 12 (A 0)))) (B 0) (0 + 0) (0 + W 12 (B 0))) _ _ 1 (by omega) (.inr i1) (by omega) (by omega) (by omega) (by omega) a1 a2 rfl (by omega)
      rw [if_neg (by omega)] at c1
      rw [if_pos rfl] at c2
      rw [zw_gob h1 h2]
      refine ⟨fun _ => c1.trans ?_, fun _ => c2.trans ?_⟩
      · congr 1; omega
      · congr 1; omega
    · rw [zw_go0 h1 (by omega)]
      refine ⟨fun _ => a1.trans ?_, fun h => absurd h h2⟩
      congr 1; omega
  · have h2 : 0 < q := by omega
    have i1 : zw_in p q A B (B 0) := .inr ⟨0, h2, rfl⟩
    have w1 := hW 12 (B 0) (.inl rfl) i1
    have b1 := zw_D_le (w := 0) hW _ 0 1 (B 0) rfl (.inr i1)
    rw [show zw_op 0 = min from rfl] at b1
    obtain ⟨c1, c2⟩ := zw_g6 (X := X) (Y := Y) hW r 0 1 (B 0) (0 + W 12 (B 0)) ([] ++ [1]) 0 (0 + W 12 (B 0)) (zw_n2 (zw_n1 (zw_a0 ah) (0 + 0) 0) (B 0) (0 + 0) (0 + W 12 (B 0))) 1000000 1000000 1 (by omega) (.inr i1) (by omega) (by omega) (by omega) (by omega) rfl rfl rfl (by omega)
    rw [if_pos rfl] at c2
    rw [zw_go1 (by omega)]
    refine ⟨fun h => absurd h h1, fun _ => c2.trans ?_⟩
    congr 1; omega
end
theorem zw_p0 {n : Nat} {I : Nat → Nat → Int32} {J : Nat → Nat → Int64} {F : zz_F} (h : zi n I J F) (pl : Nat) : (zw_p n (I 54) (I 8 2) pl = 0) ↔ zh_nx n (I 53) (I 54) pl = -1 := by
  have hn := h.1.1
  have bs : ∀ s, s < n → (bt (I 8 2) s = true ↔ I 53 s = 0) := fun s hs => by
    rw [h.2.1.2.2.1, zu_set_at (by omega) hs]; simp
  constructor
  · intro z
    rcases zh_nx_ok n (I 53) (I 54) pl with e | ⟨s, hs, e, s0, sp⟩
    · exact e
    · exfalso
      have := (zw_s_mem hn (f := I 54) (set := I 8 2) (pl := pl) (s := s)).mpr ⟨hs, (bs s hs).mpr s0, sp⟩
      unfold zw_p at z
      rw [List.length_eq_zero_iff] at z
      rw [z] at this
      cases this
  · intro z
    rcases Nat.eq_zero_or_pos (zw_p n (I 54) (I 8 2) pl) with w | w
    · exact w
    · exfalso
      have ok := zw_a_ok hn w
      unfold zh_nx at z
      by_cases c : zu_fs (fun s => decide (I 53 s = 0) && decide (I 54 (7 * s) = nI pl)) n < n
      · rw [if_pos c] at z
        exact nI_pos (n := zu_fs (fun s => decide (I 53 s = 0) && decide (I 54 (7 * s) = nI pl)) n) (by omega) (by rw [z]; decide)
      · have := zu_fs_no (p := fun s => decide (I 53 s = 0) && decide (I 54 (7 * s) = nI pl)) (n := n) (k := zw_a n (I 54) (I 8 2) pl 0) (by omega)
        simp only [ok.2.2, (bs _ ok.1).mp ok.2.1, decide_true, Bool.and_self] at this
        cases this
theorem zs_sizeOf {p q : Nat} {A B : Nat → Nat} {W : Nat → Nat → Nat} {X : Nat → Nat → Int32} (h : zw_L p q A B W X) {pl : Nat} (hp : pl ≤ 1) : zv_X4_sizeOf X (nI pl) = nI (if pl = 0 then p else q) := by
  unfold zv_X4_sizeOf
  rcases (by omega : pl = 0 ∨ pl = 1) with rfl | rfl
  · rw [if_neg (fun w => w rfl), if_pos rfl]; exact h.2.1
  · rw [if_pos (by decide), if_neg (by omega)]; exact h.2.2.1
theorem zy_turn {N n : Nat} (hN : 100000 ≤ N) {I : Nat → Nat → Int32} {J : Nat → Nat → Int64} {F : zz_F} (h : zi n I J F) (x : Int32) : ∃ v I1 J1 I2 J2 F2, zf_X11_turn N x I J = some (v, I1, J1) ∧ zf_X12_turn N x I1 J1 F = some (v, I2, J2, F2) ∧ zi n I2 J2 F2 := by
  have hn := h.1.1
  rcases zu_bet x 1 (by omega) with qq | ⟨pl, hpl, rfl⟩
  · obtain ⟨M, rfl⟩ := zu_one N hN
    have a : zf_X11_turn (M + 1) x I J = some (-1, I, J) := by
      rw [zo_X11_turn]
      exact zu_gn (fun w => w (zs_isPlayN qq)) rfl
    have b : zf_X12_turn (M + 1) x I J F = some (-1, zz_u I 52 7 0, J, F) := by
      rw [zo_X12_turn]
      exact zu_gn (fun w => w (zu_inN 1 qq)) rfl
    exact ⟨_, _, _, _, _, _, a, b, zi_q0 h⟩
  have ip : ¬ zv_X11_isPlay (nI pl) = 0 := by rw [zs_isPlayY hpl]; decide
  have im : ¬ zv_X12_isPlay (nI pl) = 0 := by
    show ¬ zv_X12_in (nI pl) 0 (nI 1) = 0
    rw [zu_inY (by omega) hpl]; decide
  obtain ⟨X, m, e0, hX, ru, hL, fx, f41⟩ := zs_ready hN h
  have pq := hL.1
  have hsz := zs_sizeOf hL hpl
  have z0 := zw_p0 h pl
  have nx : ∀ (P : Nat → Nat → Int32) (J' : Nat → Nat → Int64), P 52 1 = I 52 1 → P 53 = I 53 → P 54 = I 54 → zf_X12_nextOf__53 N (nI pl) P J' = some (zh_nx n (I 53) (I 54) pl, P, J') := fun P J' a b c => by
    have := zm_next hN hn (I := P) (J := J') (by rw [a]; exact h.1.2.1) pl
    rw [b, c] at this
    exact this
  have x52 : X 52 = I 52 := fx 52 (by omega) (by omega) (by omega) (by omega) (by omega) (by omega)
  have x53 : X 53 = I 53 := fx 53 (by omega) (by omega) (by omega) (by omega) (by omega) (by omega)
  have x54 : X 54 = I 54 := fx 54 (by omega) (by omega) (by omega) (by omega) (by omega) (by omega)
  have x58 : X 58 = I 58 := fx 58 (by omega) (by omega) (by omega) (by omega) (by omega) (by omega)
  have zz : (if pl = 0 then zw_p n (I 54) (I 8 2) 0 else zw_p n (I 54) (I 8 2) 1) = zw_p n (I 54) (I 8 2) pl := by
    rcases (by omega : pl = 0 ∨ pl = 1) with rfl | rfl <;> rfl
  by_cases c : zw_p n (I 54) (I 8 2) pl = 0
  · have A1 : zf_X11_turn N (nI pl) I J = some (-2, X, J) := by
      obtain ⟨M, rfl⟩ := zu_one N hN
      rw [zo_X11_turn]
      refine zu_gd ip (zu_bd e0 (zu_gn (fun w => w ?_) rfl))
      rw [hsz, zz, c]; rfl
    have B1 : zf_X12_turn N (nI pl) X J F = some (-2, zz_u X 52 7 0, J, F) := by
      have := nx (zz_u X 52 7 0) J (by rw [zz_un (by omega), x52]) (by rw [zu_ux (by omega), x53]) (by rw [zu_ux (by omega), x54])
      obtain ⟨M, rfl⟩ := zu_one N hN
      rw [zo_X12_turn]
      exact zu_gd im (zu_bd this (zu_gn (fun w => w (z0.mp c)) rfl))
    exact ⟨_, _, _, _, _, _, A1, B1, zi_q0 hX⟩
  have cp : 0 < zw_p n (I 54) (I 8 2) pl := Nat.pos_of_ne_zero c
  obtain ⟨X1, g1, g2, g3⟩ := zs_short hN (J := J) hL
  have hL1 := zw_L_c hL (by rw [g1 41 (by omega)]) (by rw [g1 41 (by omega)]) (g1 42 (by omega)) (g1 43 (by omega))
  have hD := zw_D0le hL
  generalize hWW : zw_c m (I 58) (I 54) (I 53 13) = W at *
  -- what the play's first would take
  obtain ⟨V, hV, eV⟩ : ∃ V, V = (if pl = 0 then W 12 (zw_a n (I 54) (I 8 2) 0 0) + zw_D min (zw_p n (I 54) (I 8 2) 0) (zw_p n (I 54) (I 8 2) 1) (zw_a n (I 54) (I 8 2) 0) (zw_a n (I 54) (I 8 2) 1) W 1 0 (zw_a n (I 54) (I 8 2) 0 0) else W 12 (zw_a n (I 54) (I 8 2) 1 0) + zw_D min (zw_p n (I 54) (I 8 2) 0) (zw_p n (I 54) (I 8 2) 1) (zw_a n (I 54) (I 8 2) 0) (zw_a n (I 54) (I 8 2) 1) W 0 1 (zw_a n (I 54) (I 8 2) 1 0)) ∧ zv_X4_shortestFrom X1 (nI pl) = nI V := by
    refine ⟨_, rfl, ?_⟩
    rcases (by omega : pl = 0 ∨ pl = 1) with rfl | rfl
    · rw [if_pos rfl]
      exact zw_rb0 (w := 0) hL1 (i := 0) (j := 0) (l := 0) cp (by omega) (by omega) (g2 1 0 (by omega) (by omega))
    · rw [if_neg (by omega)]
      exact zw_rb1 (w := 0) hL1 (i := 0) (j := 0) (l := 0) (by omega) cp (by omega) (g2 0 1 (by omega) (by omega))
  generalize hp : zw_p n (I 54) (I 8 2) 0 = p at *
  generalize hq : zw_p n (I 54) (I 8 2) 1 = q at *
  generalize hA : zw_a n (I 54) (I 8 2) 0 = A at *
  generalize hB : zw_a n (I 54) (I 8 2) 1 = B at *
  have A1 : zf_X11_turn N (nI pl) I J = some (nI V - nI (zw_D min p q A B W 0 0 12), zz_u X1 2 3 1, zz_u J 4 0 (nI V).toInt64) := by
    obtain ⟨M, rfl⟩ := zu_one N hN
    rw [zo_X11_turn]
    refine zu_gd ip (zu_bd e0 (zu_gd (fun w => c ?_) (zu_bd g3 ?_)))
    · rw [hsz, zz] at w
      exact (nI_eq (b := 0) (by unfold zw_p; have := zw_l_len (bt (zh_P n (I 54) (I 8 2) (nI pl))) 12; unfold zw_s; omega) (by omega)).mp w
    · dsimp only
      rw [eV, zu_t1, zu_x1]
  have cC : ∀ y, y ≠ 2 → y ≠ 41 → y ≠ 44 → y ≠ 45 → zz_u X1 2 3 1 y = X y := fun y a b c d => by rw [zu_ux a, g1 y c]
  have cC2 : ∀ i, i ≠ 3 → zz_u X1 2 3 1 2 i = X 2 i := fun i hi => by rw [zz_un (fun w => hi w.2), g1 2 (by omega)]
  generalize hC : zz_u X1 2 3 1 = C at *
  have c52 : C 52 = I 52 := by rw [cC 52 (by omega) (by omega) (by omega) (by omega), x52]
  obtain ⟨R, F2, r1, r2, r3, r4⟩ := zm_lwI hN (P := zz_u C 52 7 0) (J' := zz_u J 4 0 (nI V).toInt64) h (m := m) ⟨ru.1, by rw [zz_un (by omega), c52, ← x52]; exact ru.2.1, by rw [zu_ux (by omega), cC 58 (by omega) (by omega) (by omega) (by omega), x58], ru.2.2.2⟩ (by rw [zu_ux (by omega), cC 53 (by omega) (by omega) (by omega) (by omega), x53]) (by rw [zu_ux (by omega), cC 54 (by omega) (by omega) (by omega) (by omega), x54]) (by rw [zz_un (by omega), c52])
  rw [hp, hq, hA, hB, hWW] at r2
  obtain ⟨s1, _⟩ := zw_g3 (A := A) (B := B) (X := zz_u C 52 7 0 72 0) (Y := zz_u C 52 7 0 72 1) (zw_W hL) (p + q) 0 0 12 0 [] 0 0 (zw_a0 (zz_u C 52 7 0 71)) 1000000 (by omega) (.inl rfl) pq (by omega) (by omega) rfl
  rw [Nat.zero_add, show min 1000000 (zw_D min p q A B W 0 0 12) = zw_D min p q A B W 0 0 12 by omega] at s1
  have R29 : R 52 29 = nI (zw_D min p q A B W 0 0 12) := by rw [r2.2.2.1, s1]
  have R69 : R 69 pl = nI V := by
    obtain ⟨q1, q2⟩ := zw_g6r (X := zz_u C 52 7 0 72 0) (Y := zz_u C 52 7 0 72 1) (ah := zz_u C 52 7 0 71) (zw_W hL) pq
    rcases (by omega : pl = 0 ∨ pl = 1) with rfl | rfl
    · rw [r2.2.2.2.2.2.2.1, q1 (by rw [← hp]; exact cp), hV, if_pos rfl]
    · rw [r2.2.2.2.2.2.2.2.1, q2 (by rw [← hq]; exact cp), hV, if_neg (by omega)]
  have Bq : zf_X12_turn N (nI pl) C (zz_u J 4 0 (nI V).toInt64) F = some (nI V - nI (zw_D min p q A B W 0 0 12), zz_u R 52 6 1, zz_u (zz_u J 4 0 (nI V).toInt64) 56 0 (nI V).toInt64, F2) := by
    have := nx (zz_u C 52 7 0) (zz_u J 4 0 (nI V).toInt64) (by rw [zz_un (by omega), c52]) (by rw [zu_ux (by omega), cC 53 (by omega) (by omega) (by omega) (by omega), x53]) (by rw [zu_ux (by omega), cC 54 (by omega) (by omega) (by omega) (by omega), x54])
    obtain ⟨M, rfl⟩ := zu_one N hN
    rw [zo_X12_turn]
    unfold zb_X12_turn_0
    refine zu_gd im (zu_bd this (zu_gd (fun w => c (z0.mpr w)) (zu_bd r1 (zu_gd (nI_in (show pl < 2 by omega) (by omega)) (zu_gd zu_20_0 ?_)))))
    dsimp only
    rw [nI_clamp (by omega), R69, zu_m1, zu_y1, zu_ux (show 69 ≠ 52 by omega), R69, zz_un (by omega), R29]
  refine ⟨_, _, _, _, _, _, A1, Bq, zi_told hX (zw_zk cC cC2 (fun y a _ => zu_ux a) (fun i _ b => zz_un (fun w => b w.2)) r3 (fun y a => zu_ux a) (fun i a => zz_un (fun w => a w.2))) (zi_tol1 ?_ rfl rfl) (zF_ok r4 h.2.2.2.2.2.2.2.2)⟩
  rw [zu_ux (by omega), zw_fr2 r3, zu_ux (by omega), ← hC]
  exact zz_us _ _ _ _
/-! how many weaves there are -/
def zw_ww (q : Nat) : Nat → Nat
  | 0 => 1
  | k + 1 => zw_ww q k * (q + (k + 1)) / (k + 1)
theorem zw_ww_ok : ∀ q, q < 13 → ∀ k, k < 13 → q + k ≤ 12 → zw_ww q k ≤ 924 ∧ zw_cn k q (k + q) 0 0 = zw_ww q k := by decide +kernel
theorem zs_ways {N p q : Nat} (hN : 100000 ≤ N) {A B : Nat → Nat} {W : Nat → Nat → Nat} {X : Nat → Nat → Int32} {J : Nat → Nat → Int64} (h : zw_L p q A B W X) : zf_X4_ways N X J = some (nI (zw_cn p q (p + q) 0 0), X, J) := by
  have pq := h.1
  have lp : ∀ r k u, k + r = p → r < u → zl_X4_ways N u 4 (nI (zw_ww q k)) (nI (k + 1)) X J = some (nI (zw_ww q p), X, J) := by
    intro r
    induction r with
    | zero =>
      intro k u hk hu
      obtain ⟨v, rfl⟩ : ∃ v, u = v + 1 := ⟨u - 1, by omega⟩
      obtain rfl : k = p := by omega
      rw [zo_X4_ways_4]
      unfold zb_X4_ways_4
      rw [h.2.1, if_pos (nI_lt (by omega) (by omega))]
    | succ r ih =>
      intro k u hk hu
      obtain ⟨v, rfl⟩ : ∃ v, u = v + 1 := ⟨u - 1, by omega⟩
      have b := (zw_ww_ok q (by omega) k (by omega) (by omega)).1
      have b2 : zw_ww q k * (q + (k + 1)) ≤ 924 * 13 := Nat.mul_le_mul b (by omega)
      rw [zo_X4_ways_4]
      unfold zb_X4_ways_4
      rw [h.2.1, h.2.2.1, if_neg (nI_nlt (by omega) (by omega)), if_pos (show ¬ nI (k + 1) = 0 from fun w => by have := (nI_eq (b := 0) (by omega) (by omega)).mp w; omega), nI_add, pk_mul, pk_div (by omega) (by omega) (by omega), nI_1]
      exact ih (k + 1) v (by omega) (by omega)
  rw [(zw_ww_ok q (by omega) p (by omega) (by omega)).2]
  obtain ⟨M, rfl⟩ := zu_one N hN
  rw [zo_X4_ways]
  exact lp p 0 M (by omega) (by omega)
theorem zy_weaves {N n : Nat} (hN : 100000 ≤ N) {I : Nat → Nat → Int32} {J : Nat → Nat → Int64} {F : zz_F} (h : zi n I J F) : ∃ v I1 J1 I2 J2 F2, zf_X11_weaves N I J = some (v, I1, J1) ∧ zf_X12_weaves N I1 J1 F = some (v, I2, J2, F2) ∧ zi n I2 J2 F2 := by
  have hn := h.1.1
  obtain ⟨X, m, e0, hX, ru, hL, fx, f41⟩ := zs_ready hN h
  have pq := hL.1
  obtain ⟨X1, g1, g2, g3⟩ := zw_fill hN (w := 1) (by omega) (J := J) hL
  have hD := zw_D_le (w := 1) (zw_W hL) _ 0 0 12 rfl (.inl rfl)
  rw [show zw_op 1 = max from rfl] at g2 g3 hD
  have x52 : X 52 = I 52 := fx 52 (by omega) (by omega) (by omega) (by omega) (by omega) (by omega)
  have x53 : X 53 = I 53 := fx 53 (by omega) (by omega) (by omega) (by omega) (by omega) (by omega)
  have x54 : X 54 = I 54 := fx 54 (by omega) (by omega) (by omega) (by omega) (by omega) (by omega)
  have x58 : X 58 = I 58 := fx 58 (by omega) (by omega) (by omega) (by omega) (by omega) (by omega)
  generalize hWW : zw_c m (I 58) (I 54) (I 53 13) = W at *
  generalize hp : zw_p n (I 54) (I 8 2) 0 = p at *
  generalize hq : zw_p n (I 54) (I 8 2) 1 = q at *
  generalize hA : zw_a n (I 54) (I 8 2) 0 = A at *
  generalize hB : zw_a n (I 54) (I 8 2) 1 = B at *
  have hl : zf_X4_longest N X J = some (nI (zw_D max p q A B W 0 0 12), X1, J) := by
    obtain ⟨M, rfl⟩ := zu_one N hN
    rw [zo_X4_longest]
    exact zu_bd g3 rfl
  have hL1 : zw_L p q A B W (zz_u X1 2 3 1) := zw_L_c hL (by rw [zu_ux (by omega), g1 41 (by omega)]) (by rw [zu_ux (by omega), g1 41 (by omega)]) (by rw [zu_ux (by omega), g1 42 (by omega)]) (by rw [zu_ux (by omega), g1 43 (by omega)])
  have wy := zs_ways hN (J := zz_u J 4 0 (nI (zw_D max p q A B W 0 0 12)).toInt64) hL1
  have A1 : zf_X11_weaves N I J = some (nI (zw_cn p q (p + q) 0 0), zz_u X1 2 3 1, zz_u J 4 0 (nI (zw_D max p q A B W 0 0 12)).toInt64) := by
    obtain ⟨M, rfl⟩ := zu_one N hN
    rw [zo_X11_weaves]
    refine zu_bd e0 (zu_bd hl ?_)
    dsimp only
    rw [zu_t1, zu_x1]
    exact zu_bd wy rfl
  have cC : ∀ y, y ≠ 2 → y ≠ 41 → y ≠ 44 → y ≠ 45 → zz_u X1 2 3 1 y = X y := fun y a b c d => by rw [zu_ux a, g1 y c]
  have cC2 : ∀ i, i ≠ 3 → zz_u X1 2 3 1 2 i = X 2 i := fun i hi => by rw [zz_un (fun w => hi w.2), g1 2 (by omega)]
  generalize hC : zz_u X1 2 3 1 = C at *
  have c52 : C 52 = I 52 := by rw [cC 52 (by omega) (by omega) (by omega) (by omega), x52]
  generalize hVV : zw_D max p q A B W 0 0 12 = V at *
  obtain ⟨R, F2, r1, r2, r3, r4⟩ := zm_lwI hN (P := zz_u C 52 7 0) (J' := zz_u J 4 0 (nI V).toInt64) h (m := m) ⟨ru.1, by rw [zz_un (by omega), c52, ← x52]; exact ru.2.1, by rw [zu_ux (by omega), cC 58 (by omega) (by omega) (by omega) (by omega), x58], ru.2.2.2⟩ (by rw [zu_ux (by omega), cC 53 (by omega) (by omega) (by omega) (by omega), x53]) (by rw [zu_ux (by omega), cC 54 (by omega) (by omega) (by omega) (by omega), x54]) (by rw [zz_un (by omega), c52])
  rw [hp, hq, hA, hB, hWW] at r2
  have s2 := zw_g2 (A := A) (B := B) (X := zz_u C 52 7 0 72 0) (Y := zz_u C 52 7 0 72 1) (zw_W hL) (p + q) 0 0 12 0 [] 0 0 (zw_a0 (zz_u C 52 7 0 71)) 0 (by omega) (.inl rfl) pq (by omega) (by omega) rfl
  rw [hVV, Nat.zero_add, Nat.zero_max] at s2
  have s1 := zw_g1 (p := p) (q := q) (A := A) (B := B) (W := W) (X := zz_u C 52 7 0 72 0) (Y := zz_u C 52 7 0 72 1) (p + q) 0 0 12 0 [] 0 0 (zw_a0 (zz_u C 52 7 0 71))
  have R30 : R 52 30 = nI V := by rw [r2.2.1, s2]
  have R28 : R 52 28 = nI (zw_cn p q (p + q) 0 0) := by
    rw [r2.1, s1]
    congr 1
    exact Nat.zero_add _
  have Bq : zf_X12_weaves N C (zz_u J 4 0 (nI V).toInt64) F = some (nI (zw_cn p q (p + q) 0 0), zz_u R 52 6 1, zz_u (zz_u J 4 0 (nI V).toInt64) 56 0 (nI V).toInt64, F2) := by
    obtain ⟨M, rfl⟩ := zu_one N hN
    rw [zo_X12_weaves]
    unfold zb_X12_weaves_0
    refine zu_bd r1 (zu_gd zu_20_0 ?_)
    dsimp only
    rw [R30, zu_m1, zu_y1, zz_un (by omega), R28]
  refine ⟨_, _, _, _, _, _, A1, Bq, zi_told hX (zw_zk cC cC2 (fun y a _ => zu_ux a) (fun i _ b => zz_un (fun w => b w.2)) r3 (fun y a => zu_ux a) (fun i a => zz_un (fun w => a w.2))) (zi_tol1 ?_ rfl rfl) (zF_ok r4 h.2.2.2.2.2.2.2.2)⟩
  rw [zu_ux (by omega), zw_fr2 r3, zu_ux (by omega), ← hC]
  exact zz_us _ _ _ _
