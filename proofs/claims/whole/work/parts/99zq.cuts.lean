/-! CUTS, BOTH -/
theorem zs_readyC {N n : Nat} (hN : 100000 ≤ N) {I : Nat → Nat → Int32} {J : Nat → Nat → Int64} {F : zz_F} (h : zi n I J F) : ∃ X m, zf_X11_readyLoom__28 N I J = some (0, X, J) ∧ zi n X J F ∧ zr_ru m (I 58) X F ∧ zw_L (zw_p n (I 54) (I 8 2) 0) (zw_p n (I 54) (I 8 2) 1) (zw_a n (I 54) (I 8 2) 0) (zw_a n (I 54) (I 8 2) 1) (zw_c m (I 58) (I 54) (I 53 13)) X ∧ (∀ x, x ≠ 28 → x ≠ 30 → x ≠ 31 → x ≠ 41 → x ≠ 42 → x ≠ 43 → X x = I x) ∧ (∀ i, i ≠ 6 → i ≠ 7 → X 41 i = I 41 i) ∧ ∀ x y, (x = 12 ∨ x < n) → y < n → X 42 (x * 12 + y) = nI (zw_c m (I 58) (I 54) (I 53 13) x y) ∧ zw_c m (I 58) (I 54) (I 53 13) x y ≤ 108 := by
  have hn := h.1.1
  obtain ⟨X0, e0, h0, fr, x1, x28⟩ := zs_fresh hN h
  obtain ⟨m, ru, bt'⟩ := zs_betw h0 fr
  have E54 : X0 54 = I 54 := x1 54 (by omega) (by omega) (by omega)
  have E58 : X0 58 = I 58 := x1 58 (by omega) (by omega) (by omega)
  have E53 : X0 53 = I 53 := x1 53 (by omega) (by omega) (by omega)
  have E8 : X0 8 = I 8 := x1 8 (by omega) (by omega) (by omega)
  have hl : X0 8 1 = -1 ∨ ∃ s, s < n ∧ X0 8 1 = nI s := by
    rw [h0.2.1.2.1]
    exact h0.2.1.2.2.2.2.2.2.2.2.2.2
  have l13 : X0 8 1 = I 53 13 := by rw [h0.2.1.2.1, E53]
  obtain ⟨X1, g1, g2, g3⟩ := zw_sc_o (N := N) (I := X0) (J := J) (last := X0 8 1) (hl.imp id (fun ⟨s, hs, e⟩ => ⟨s, by omega, e⟩)) 12 0 (N - 1) X0 (by omega) (by omega) (fun _ _ => rfl) (fun y' h1 => by omega)
  have ec : zf_X4_setCosts__28 N (X0 8 1) X0 J = some (0, X1, J) := by
    obtain ⟨M, rfl⟩ := zu_one N hN
    rw [zo_X4_setCosts__28]
    exact g3
  have s1 : zi_sc n X1 := zc_sc h0.1 (by rw [g1 5 (by omega)]) (g1 6 (by omega)) (g1 7 (by omega)) (by rw [g1 52 (by omega)]) (g1 54 (by omega))
  have mi : ∀ y, y < n → ∃ v, v ≤ 9 ∧ I 54 (7 * y + 1) = nI v ∧ zz_f X0 (nI y) 1 = nI v := fun y hy => by
    obtain ⟨_, ⟨v, _, hv, e⟩, _⟩ := h.1.2.2.2.2.1 y hy
    have e : I 54 (7 * y + 1) = nI v := e
    refine ⟨v, hv, e, ?_⟩
    rw [zu_cf1 (by omega), h0.1.2.2.2.1 _ (by omega), E54]; exact e
  have hW : ∀ x y, (x = 12 ∨ x < n) → y < n → X1 42 (x * 12 + y) = nI (zw_c m (I 58) (I 54) (I 53 13) x y) ∧ zw_c m (I 58) (I 54) (I 53 13) x y ≤ 108 := fun x y hx hy => by
    obtain ⟨v, hv, e1, e2⟩ := mi y hy
    unfold zw_c
    rw [e1, nI_clamp (by omega)]
    by_cases q : x = 12
    · subst q
      rw [if_pos rfl, show 12 * 12 + y = 144 + y by omega, (g2 y (by omega)).2, e2, l13]
      by_cases z : I 53 13 = -1
      · rw [if_pos z, z]
        refine ⟨?_, by omega⟩
        rw [show zv_X1_between X0 (-1) (nI y) = 0 from if_pos (by decide), Nat.zero_add]
        exact Int32.zero_add _
      · rw [if_neg z]
        obtain ⟨s, hs, es⟩ := hl.resolve_left (by rw [l13]; exact z)
        rw [l13] at es
        obtain ⟨k, hk, ek⟩ := zq_chgN m (I 58) (fun w => I 54 (7 * s + w)) (fun w => I 54 (7 * y + w))
        rw [es, bt' s y hs hy, nI_clamp (by omega)]
        unfold zt_c
        rw [E54, E58, ek, nI_clamp (by omega)]
        exact ⟨nI_add k v, by omega⟩
    · rw [if_neg q, (g2 y (by omega)).1 x (by omega), e2, bt' x y (by omega) hy]
      unfold zt_c
      obtain ⟨k, hk, ek⟩ := zq_chgN m (I 58) (fun w => I 54 (7 * x + w)) (fun w => I 54 (7 * y + w))
      rw [E54, E58, ek, nI_clamp (by omega)]
      exact ⟨nI_add k v, by omega⟩
  obtain ⟨X, k1, k2, k3, k4⟩ := zs_lay hN (J := J) s1 (X1 8 2) hW
  have e82 : X1 8 2 = I 8 2 := by rw [g1 8 (by omega), E8]
  rw [show X1 54 = I 54 by rw [g1 54 (by omega), E54], e82] at k4
  have fx : ∀ x, x ≠ 41 → x ≠ 42 → x ≠ 43 → X x = X0 x := fun x a b c => by rw [k2 x a c, g1 x b]
  refine ⟨X, m, ?_, zi_told h0 (fun a i hk => congrFun (fx a (fun w => by subst w; cases hk) (fun w => by subst w; cases hk) (fun w => by subst w; cases hk)) i) (zc_tol h0.2.2.2.1 (by rw [fx 2 (by omega) (by omega) (by omega)]) (by rw [fx 52 (by omega) (by omega) (by omega)]) rfl rfl) h0.2.2.2.2.2.2.2.2, ⟨ru.1, by rw [fx 52 (by omega) (by omega) (by omega)]; exact ru.2.1, by rw [fx 58 (by omega) (by omega) (by omega), E58], by rw [← E58]; exact ru.2.2.2.1, ru.2.2.2.2⟩, k4, fun x a1 a2 a3 a4 a5 a6 => by rw [fx x a4 a5 a6, x1 x a1 a2 a3], fun i i1 i2 => by rw [k3 i i1 i2, g1 41 (by omega), x1 41 (by omega) (by omega) (by omega)], fun x y hx hy => by rw [k2 42 (by omega) (by omega)]; exact hW x y hx hy⟩
  obtain ⟨M, rfl⟩ := zu_one N hN
  rw [zo_X11_readyLoom__28]
  exact zu_bd e0 (zu_bd ec (zu_bd k1 rfl))
theorem zc_dm0 {n : Nat} (hn : n ≤ 12) (f : Nat → Int32) (W : Nat → Nat → Nat) (c : Nat) : zc_dm n f W c c = 0 := by
  have s0 : nI c &&& (nI c ^^^ -1) = 0 := b_ext (fun i hi => by
    rw [b_and, b_not hi, b_0]
    cases bt (nI c) i <;> rfl)
  have p0 : ∀ pl, zw_p n f 0 pl = 0 := fun pl => by
    unfold zw_p
    rw [List.length_eq_zero_iff, List.eq_nil_iff_forall_not_mem]
    intro s hs
    have := ((zw_s_mem hn).mp hs).2.1
    rw [b_0] at this; cases this
  unfold zc_dm
  rw [s0, p0, p0]
  rfl
theorem zy_cuts {N n : Nat} (hN : 100000 ≤ N) {I : Nat → Nat → Int32} {J : Nat → Nat → Int64} {F : zz_F} (h : zi n I J F) (x : Int32) : ∃ v I1 J1 I2 J2 F2, zf_X11_cuts N x I J = some (v, I1, J1) ∧ zf_X12_cuts N x I1 J1 F = some (v, I2, J2, F2) ∧ zi n I2 J2 F2 := by
  have hn := h.1.1
  rcases zu_bet x 199 (by omega) with qq | ⟨lim, hx, rfl⟩
  · obtain ⟨M, rfl⟩ := zu_one N hN
    have a : zf_X11_cuts (M + 1) x I J = some (-1, I, J) := by
      rw [zo_X11_cuts]
      refine zu_gn (fun w => w ?_) rfl
      unfold zv_X11_isHour
      rcases qq with w | w
      · rw [if_pos w]
      · by_cases z : x < 0
        · rw [if_pos z]
        · rw [if_neg z]; exact if_pos w
    have b : zf_X12_cuts (M + 1) x I J F = some (-1, zz_u I 52 7 0, J, F) := by
      rw [zo_X12_cuts]
      exact zu_gn (fun w => w (zu_inN 199 qq)) rfl
    exact ⟨_, _, _, _, _, _, a, b, zi_q0 h⟩
  have ih' : ¬ zv_X11_isHour (nI lim) = 0 := by
    unfold zv_X11_isHour
    rw [if_neg (nI_pos (by omega)), if_neg (show ¬ (199 : Int32) < nI lim from nI_nlt (a := 199) hx (by omega))]; decide
  have im : ¬ zv_X12_in (nI lim) 0 199 = 0 := by
    show ¬ zv_X12_in (nI lim) 0 (nI 199) = 0
    rw [zu_inY (by omega) hx]; decide
  obtain ⟨X, m, e0, hX, ru, hL, fx, f41, hW⟩ := zs_readyC hN h
  have hf := h.1.2.2.2.2.1
  have hla : I 53 13 = -1 ∨ ∃ s, s < n ∧ I 53 13 = nI s := h.2.1.2.2.2.2.2.2.2.2.2.2
  obtain ⟨c, hc, ec⟩ : ∃ c, c < 4096 ∧ I 8 2 = nI c := ⟨_, (zu_nat (fun i a b => zw_wh h i (by omega) b)).1, (zu_nat (fun i a b => zw_wh h i (by omega) b)).2⟩
  have hcn : ∀ i, n ≤ i → c.testBit i = false := fun i hi => by
    rcases Nat.lt_or_ge i 32 with w | w
    · rw [← zc_tb hc, ← ec]; exact zw_wh h i hi w
    · exact zc_12 hc (by omega)
  have E : ∀ y, y < 28 ∨ 43 < y → X y = I y := fun y w => fx y (by omega) (by omega) (by omega) (by omega) (by omega) (by omega)
  have scX : zi_sc n X := hX.1
  have mi : ∀ y, y < n → ∃ v, v ≤ 9 ∧ I 54 (7 * y + 1) = nI v := fun y hy => by
    obtain ⟨_, ⟨v, _, hv, e⟩, _⟩ := hf y hy
    exact ⟨v, hv, e⟩
  obtain ⟨mu, hmu⟩ : ∃ mu : Nat → Nat, mu = fun y => (I 54 (7 * y + 1)).toNatClampNeg := ⟨_, rfl⟩
  have mu9 : ∀ y, y < n → I 54 (7 * y + 1) = nI (mu y) ∧ mu y ≤ 9 := fun y hy => by
    obtain ⟨v, hv, e⟩ := mi y hy
    rw [hmu]
    dsimp only
    rw [e, nI_clamp (by omega)]
    exact ⟨rfl, hv⟩
  have hmW : ∀ x y, mu y ≤ zw_c m (I 58) (I 54) (I 53 13) x y := fun x y => by
    rw [hmu]
    unfold zw_c
    exact Nat.le_add_left _ _
  generalize hWW : zw_c m (I 58) (I 54) (I 53 13) = W at *
  have x54 : X 54 = I 54 := E 54 (by omega)
  have x6 : ∀ k, k < 7 * n → X 6 k = I 54 k := fun k hk => by rw [scX.2.2.2.1 k hk, x54]
  have cc := zc_chE hf hc
  obtain ⟨S0, hS0⟩ : ∃ S0, S0 = zz_u (zz_u (zz_u X 41 14 (nI lim)) 41 10 (nI c)) 41 11 0 := ⟨_, rfl⟩
  obtain ⟨S1, hS1⟩ : ∃ S1, S1 = zz_u (zz_u S0 41 12 (nI (zc_ch n (I 54) c))) 41 13 (nI (zc_ct c)) := ⟨_, rfl⟩
  have S0x : ∀ y, y ≠ 41 → S0 y = X y := fun y hy => by rw [hS0, zu_ux hy, zu_ux hy, zu_ux hy]
  have S1x : ∀ y, y ≠ 41 → S1 y = X y := fun y hy => by rw [hS1, zu_ux hy, zu_ux hy, S0x y hy]
  have sc0 : zi_sc n S0 := zc_sc scX (by rw [S0x 5 (by omega)]) (S0x 6 (by omega)) (S0x 7 (by omega)) (by rw [S0x 52 (by omega)]) (S0x 54 (by omega))
  have sm := zs_sum6 hN (I := S0) (J := J) sc0 (nI c)
  rw [S0x 54 (by omega), x54, cc.1] at sm
  have zf : ∀ (Y : Nat → Nat → Int32) y, Y 6 = X 6 → y < n → zz_f Y (nI y) 1 = nI (mu y) ∧ zz_f Y (nI y) 6 = I 54 (7 * y + 6) := fun Y y hY hy => by
    rw [zu_cf1 (by omega), zu_cf6 (by omega), hY, x6 _ (by omega), x6 _ (by omega)]
    exact ⟨(mu9 y hy).1, rfl⟩
  have cb : ∀ i, bt (nI c) i = c.testBit i := fun i => zc_tb hc i
  obtain ⟨lc, l1, l2, l3⟩ := zs_lc hN (I := S1) (J := J) (c := nI c) (W := W) (mi := mu) hn (fun s a b => by rw [cb]; exact hcn s a) (fun x y hx hy => by rw [S1x 42 (by omega)]; exact ⟨(hW x y (.inr hx) hy).1, (hW x y (.inr hx) hy).2, hmW x y⟩) (fun y hy => (zf S1 y (S1x 6 (by omega)) hy).1)
  obtain ⟨Sb, hSb⟩ : ∃ Sb, Sb = zz_u S1 41 15 (nI lc) := ⟨_, rfl⟩
  have Sbx : ∀ y, y ≠ 41 → Sb y = X y := fun y hy => by rw [hSb, zu_ux hy, S1x y hy]
  have scb : zi_sc n Sb := zc_sc scX (by rw [Sbx 5 (by omega)]) (Sbx 6 (by omega)) (Sbx 7 (by omega)) (by rw [Sbx 52 (by omega)]) (Sbx 54 (by omega))
  have st0 : zc_S n (I 54) W c Sb Sb c := by
    refine ⟨fun _ _ _ _ => rfl, fun _ _ _ _ _ _ _ => rfl, ?_, ?_, ?_, ?_⟩
    · rw [hSb, zz_un (by omega), hS1, zz_un (by omega), zz_un (by omega), hS0, zz_un (by omega), zz_us]
    · rw [hSb, zz_un (by omega), hS1, zz_un (by omega), zz_un (by omega), hS0, zz_us, zc_dm0 hn]; rfl
    · rw [hSb, zz_un (by omega), hS1, zz_un (by omega), zz_us]
    · rw [hSb, zz_un (by omega), hS1, zz_us]
  have cs : zc_sb c c := fun i h => h
  obtain ⟨X', t1, t2⟩ := zs_try hN (J := J) (lim := lim) (lc := lc) (mi := mu) scb ((Sbx 54 (by omega)).trans x54) hf (fun x y a b => by rw [Sbx 42 (by omega)]; exact hW x y a b) (by rw [hSb, zz_un (by omega), hS1, zz_un (by omega), zz_un (by omega), hS0, zz_un (by omega), zz_un (by omega), zz_us]) (by rw [hSb, zz_us]) hx l1 hc hcn (fun y hy => ⟨(zf Sb y (Sbx 6 (by omega)) hy).1, (mu9 y hy).2⟩) (fun y hy => (zf Sb y (Sbx 6 (by omega)) hy).2) (fun x y hx hy h1 h2 ne => l2 x y hx hy (by rw [cb]; exact h1) (by rw [cb]; exact h2) ne) (fun y hy => hmW 12 y) 12 16 0 0 c Sb (by omega) (by omega) (by omega) (fun i hi => by rw [Nat.zero_testBit] at hi; cases hi) cs st0
  have ch0 : zc_ch n (I 54) 0 = 0 := by
    have : ∀ k, zc_su (fun i => if (0 : Nat).testBit i = true then (I 54 (7 * i + 6)).toNatClampNeg else 0) k = 0 := by
      intro k
      induction k with
      | zero => rfl
      | succ k ih =>
        show zc_su _ k + (if (0 : Nat).testBit k = true then _ else 0) = 0
        rw [ih, Nat.zero_testBit, if_neg (by decide)]
    exact this n
  have kb0 : zc_kb c lc mu 12 0 = 0 := by
    have : zc_kb c lc mu 12 0 ≤ zc_su (fun _ => 0) 12 := zc_su_le 12 (fun i hi => by rw [if_neg (fun w => by omega)]; exact Nat.le_refl _)
    have z : zc_su (fun _ => 0) 12 = 0 := rfl
    omega
  rw [ch0, kb0] at t1
  have all := zc_all (c := c) (ch := zc_ch n (I 54)) (ct := zc_ct) (dm := zc_dm n (I 54) W c) (lim := lim) hc (fun k hk => zc_chM hk) cs
  generalize hbf : zc_f c (zc_ch n (I 54)) zc_ct (zc_dm n (I 54) W c) lim 12 0 c = bf at *
  have A1 : zf_X11_cuts N (nI lim) I J = some (nI (zc_ch n (I 54) bf), zz_u X' 2 3 2, zz_u (zz_u J 4 0 (nI bf).toInt64) 4 1 (nI (zc_dm n (I 54) W c bf)).toInt64) := by
    have fc : zf_X4_findCut N (nI c) (nI lim) X J = some (nI (zc_ch n (I 54) bf), X', J) := by
      obtain ⟨M, rfl⟩ := zu_one N hN
      rw [zo_X4_findCut]
      unfold zb_X4_findCut_0
      rw [← hS0]
      refine zu_bd sm ?_
      dsimp only
      rw [zc_ctE hc, ← hS1]
      refine zu_bd l3 ?_
      dsimp only
      rw [← hSb]
      refine zu_bd (r := (0, X', J)) ?_ ?_
      · rw [show -nI lc = nI 0 - nI lc by rw [show nI 0 = 0 from rfl, Int32.zero_sub]]
        exact t1
      · dsimp only
        rw [t2.2.2.2.2.1]
    obtain ⟨M, rfl⟩ := zu_one N hN
    rw [zo_X11_cuts]
    refine zu_gd ih' (zu_bd e0 ?_)
    dsimp only
    rw [E 8 (by omega), ec]
    refine zu_bd fc ?_
    dsimp only
    rw [t2.2.2.1, t2.2.2.2.1, zu_t2, zu_x2]
  have bsb : zc_sb bf c := by
    rw [← hbf]
    exact zc_f_sb 12 0 c (fun T hT => (zc_inM 12 0 0 T (by omega) hT).2 (fun i hi => by rw [Nat.zero_testBit] at hi; cases hi)) cs
  have b12 : bf < 4096 := Nat.lt_of_le_of_lt (zc_le bsb) hc
  have cC : ∀ y, y ≠ 2 → y ≠ 41 → y ≠ 43 → y ≠ 44 → zz_u X' 2 3 2 y = X y := fun y a b c d => by rw [zu_ux a, t2.1 y b c d, Sbx y b]
  have cC2 : ∀ i, i ≠ 3 → zz_u X' 2 3 2 2 i = X 2 i := fun i hi => by rw [zz_un (fun w => hi w.2), t2.1 2 (by omega) (by omega) (by omega), Sbx 2 (by omega)]
  have C23 : zz_u X' 2 3 2 2 3 = nI 2 := zz_us _ _ _ _
  generalize zz_u X' 2 3 2 = C at *
  generalize hJ1 : zz_u (zz_u J 4 0 (nI bf).toInt64) 4 1 (nI (zc_dm n (I 54) W c bf)).toInt64 = J1 at *
  have P54 : zz_u C 52 7 0 54 = I 54 := by rw [zu_ux (by omega), cC 54 (by omega) (by omega) (by omega) (by omega), x54]
  have P53 : zz_u C 52 7 0 53 = I 53 := by rw [zu_ux (by omega), cC 53 (by omega) (by omega) (by omega) (by omega), E 53 (by omega)]
  have P52 : ∀ i, i ≠ 7 → zz_u C 52 7 0 52 i = X 52 i := fun i hi => by rw [zz_un (fun w => hi w.2), cC 52 (by omega) (by omega) (by omega) (by omega)]
  have P1 : zz_u C 52 7 0 52 1 = nI n := by rw [P52 1 (by omega)]; exact scX.2.1
  have ruP : zr_rv 58 m (I 58) (zz_u C 52 7 0) F := .inl ⟨rfl, ru.1, by rw [P52 16 (by omega)]; exact ru.2.1, by rw [zu_ux (by omega), cC 58 (by omega) (by omega) (by omega) (by omega)]; exact ru.2.2.1, ru.2.2.2⟩
  have hWc : ∀ x y, (x = 12 ∨ x < n) → y < n → zw_c m (I 58) (I 54) (I 53 13) x y ≤ 108 := fun x y a b => by rw [hWW]; exact (hW x y a b).2
  obtain ⟨R, F1, u', a1, a2, a3, a4, _⟩ := zm_cu hN hn (J := J1) (t := I 58) (lim := lim) hf hla hc hx hWc c 0 (N - 1) c (zz_u C 52 7 0) F (by omega) (by omega) cs (.inl rfl) P54 (by rw [P53]) P1 ruP
  rw [hWW, all] at a2
  have Rx : ∀ y, y ≠ 52 → y ≠ 60 → y ≠ 74 → y ≠ 75 → y ≠ 76 → R y = C y := fun y a b c d e => by rw [a3.1 y b a c d e, zu_ux a]
  have R52 : ∀ i, i ≠ 7 → i ≠ 9 → i ≠ 10 → i ≠ 11 → i ≠ 12 → i ≠ 17 → R 52 i = X 52 i := fun i a b c d e f => by rw [a3.2 i b c d e f, P52 i a]
  have R54 : zz_u R 52 6 1 54 = I 54 := by rw [zu_ux (by omega), Rx 54 (by omega) (by omega) (by omega) (by omega) (by omega), cC 54 (by omega) (by omega) (by omega) (by omega), x54]
  have R1 : zz_u R 52 6 1 52 1 = nI n := by rw [zz_un (by omega), R52 1 (by omega) (by omega) (by omega) (by omega) (by omega) (by omega)]; exact scX.2.1
  obtain ⟨T, F2, s1, s2, s3⟩ := zm_shortE hN hn (J := zz_u J1 56 0 (nI bf).toInt64) (I := zz_u R 52 6 1) (f := I 54) (L := I 53 13) (m := m) (t := I 58) R54 (by rw [zu_ux (by omega), Rx 53 (by omega) (by omega) (by omega) (by omega) (by omega), cC 53 (by omega) (by omega) (by omega) (by omega), E 53 (by omega)]) hf R1 hla (zr_rv_c ruP (by rw [zz_un (by omega), a3.2 16 (by omega) (by omega) (by omega) (by omega) (by omega)]) (by rw [zu_ux (by omega), a3.1 58 (by omega) (by omega) (by omega) (by omega) (by omega)]) (by rw [zu_ux (by omega), a3.1 59 (by omega) (by omega) (by omega) (by omega) (by omega)]) a4) (nI c &&& (nI bf ^^^ -1)) (fun x y hx hy => hWc x y (hx.imp id (fun w => (zw_in_ok hn w).1)) (zw_in_ok hn hy).1)
  rw [hWW] at s1
  have s1 : zf_X12_shortestOf N (nI c &&& (nI bf ^^^ -1)) (zz_u R 52 6 1) (zz_u J1 56 0 (nI bf).toInt64) F1 = some (nI (zc_dm n (I 54) W c bf), T, zz_u J1 56 0 (nI bf).toInt64, F2) := s1
  have T6 : T 52 6 = 1 := (s2.2 6 (by omega) (by omega) (by omega) (by omega) (by omega)).trans (zz_us _ _ _ _)
  have Bq : zf_X12_cuts N (nI lim) C J1 F = some (nI (zc_ch n (I 54) bf), zz_u T 52 6 2, zz_u (zz_u J1 56 0 (nI bf).toInt64) 56 1 (nI (zc_dm n (I 54) W c bf)).toInt64, F2) := by
    have w1 := zm_where hN hn (I := zz_u C 52 7 0) (J := J1) P1 0
    rw [P53, show zh_W n (I 53) 0 = nI c from h.2.1.2.2.1.symm.trans ec] at w1
    have w2 := zm_cheer hN hn (I := zz_u T 52 6 2) (J := zz_u (zz_u J1 56 0 (nI bf).toInt64) 56 1 (nI (zc_dm n (I 54) W c bf)).toInt64) (by rw [zz_un (by omega), s2.2 1 (by omega) (by omega) (by omega) (by omega) (by omega)]; exact R1) (nI bf)
    rw [zu_ux (by omega), s2.1 54 (by omega) (by omega) (by omega) (by omega) (by omega), R54, (zc_chE hf b12).1] at w2
    have ew : ∀ v : Int64, zw_X12_tell T (zz_u J1 56 0 (nI bf).toInt64) v = zz_u T 52 6 2 := fun v => by
      show zz_u T 52 6 (T 52 6 + 1) = _
      rw [T6]; rfl
    have ex : ∀ v : Int64, zx_X12_tell T (zz_u J1 56 0 (nI bf).toInt64) v = zz_u (zz_u J1 56 0 (nI bf).toInt64) 56 1 v := fun v => by
      show zz_u _ 56 (T 52 6).toNatClampNeg v = _
      rw [T6]; rfl
    obtain ⟨M, hM⟩ := zu_one N hN
    have st : zf_X12_cuts N (nI lim) C J1 F = zb_X12_cuts_0 N (zl_X12_cuts N M) (nI lim) 0 0 0 0 C J1 F := by rw [hM]; exact zo_X12_cuts M (nI lim) C J1 F
    rw [st]
    unfold zb_X12_cuts_0
    refine zu_gd im (zu_bd w1 ?_)
    rw [show N - 1 = M by omega] at a2
    refine a2.trans ?_
    obtain ⟨w, hw⟩ : ∃ w, u' = w + 1 := ⟨u' - 1, by omega⟩
    rw [hw, zo_X12_cuts_29]
    unfold zb_X12_cuts_29
    rw [if_pos (nI_le (Nat.le_refl c) (by omega)), zu_m1, zu_y1]
    refine zu_gd zu_20_0 (zu_bd s1 (zu_gd (show ¬ (T 52 6 < 0 ∨ 20 ≤ (T 52 6).toNatClampNeg) by rw [T6]; decide) ?_))
    dsimp only
    rw [ew, ex]
    exact zu_bd w2 rfl
  refine ⟨_, _, _, _, _, _, A1, Bq, zi_told hX (fun a i hk => ?_) (zi_tol2 ?_ (zz_us _ _ _ _) (by rw [← hJ1]; rfl) (by rw [← hJ1]; rfl)) (zF_ok (zF_trans a4 s3) h.2.2.2.2.2.2.2.2)⟩
  · by_cases e52 : a = 52
    · subst e52
      rw [zz_un (fun w => by rw [w.2] at hk; cases hk), s2.2 i (fun w => by subst w; cases hk) (fun w => by subst w; cases hk) (fun w => by subst w; cases hk) (fun w => by subst w; cases hk) (fun w => by subst w; cases hk), zz_un (fun w => by rw [w.2] at hk; cases hk), R52 i (fun w => by subst w; cases hk) (fun w => by subst w; cases hk) (fun w => by subst w; cases hk) (fun w => by subst w; cases hk) (fun w => by subst w; cases hk) (fun w => by subst w; cases hk)]
    · rw [zu_ux e52, s2.1 a (fun w => by subst w; cases hk) e52 (fun w => by subst w; cases hk) (fun w => by subst w; cases hk) (fun w => by subst w; cases hk), zu_ux e52, Rx a e52 (fun w => by subst w; cases hk) (fun w => by subst w; cases hk) (fun w => by subst w; cases hk) (fun w => by subst w; cases hk)]
      by_cases e2 : a = 2
      · subst e2
        exact cC2 i (fun w => by subst w; cases hk)
      · rw [cC a e2 (fun w => by subst w; cases hk) (fun w => by subst w; cases hk) (fun w => by subst w; cases hk)]
  · rw [zu_ux (by omega), s2.1 2 (by omega) (by omega) (by omega) (by omega) (by omega), zu_ux (by omega), Rx 2 (by omega) (by omega) (by omega) (by omega) (by omega)]
    exact C23
