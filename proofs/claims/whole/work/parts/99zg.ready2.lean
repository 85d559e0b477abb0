/-! THE LOOM MADE READY UNDER EITHER RULE -/
theorem zs_readyG {N n : Nat} (hN : 100000 ≤ N) {I : Nat → Nat → Int32} {J : Nat → Nat → Int64} {F : zz_F} (hsc : zi_sc n I) (hru : zi_rul n I) (hF : zi_F F) (h8 : I 8 1 = I 53 13) (hlast : I 53 13 = -1 ∨ ∃ s, s < n ∧ I 53 13 = nI s) : ∃ X m, zf_X11_readyLoom__28 N I J = some (0, X, J) ∧ zi_rul n X ∧ zr_ru m (I 58) X F ∧ zw_L (zw_p n (I 54) (I 8 2) 0) (zw_p n (I 54) (I 8 2) 1) (zw_a n (I 54) (I 8 2) 0) (zw_a n (I 54) (I 8 2) 1) (zw_c m (I 58) (I 54) (I 53 13)) X ∧ (∀ x, x ≠ 28 → x ≠ 30 → x ≠ 31 → x ≠ 41 → x ≠ 42 → x ≠ 43 → X x = I x) ∧ ∀ i, i ≠ 6 → i ≠ 7 → X 41 i = I 41 i := by
  have hn := hsc.1
  obtain ⟨X0, e0, h0, fr, x1, x28⟩ := zs_freshG hN (J := J) hsc hru
  obtain ⟨m, ru, bt'⟩ := zs_betwG hn h0 hF fr
  have sc0 : zi_sc n X0 := zc_sc hsc (by rw [x1 5 (by omega) (by omega) (by omega)]) (x1 6 (by omega) (by omega) (by omega)) (x1 7 (by omega) (by omega) (by omega)) (by rw [x1 52 (by omega) (by omega) (by omega)]) (x1 54 (by omega) (by omega) (by omega))
  have E54 : X0 54 = I 54 := x1 54 (by omega) (by omega) (by omega)
  have E58 : X0 58 = I 58 := x1 58 (by omega) (by omega) (by omega)
  have E53 : X0 53 = I 53 := x1 53 (by omega) (by omega) (by omega)
  have E8 : X0 8 = I 8 := x1 8 (by omega) (by omega) (by omega)
  have hl : X0 8 1 = -1 ∨ ∃ s, s < n ∧ X0 8 1 = nI s := by
    rw [E8, h8]
    exact hlast
  have l13 : X0 8 1 = I 53 13 := by rw [E8, h8]
  obtain ⟨X1, g1, g2, g3⟩ := zw_sc_o (N := N) (I := X0) (J := J) (last := X0 8 1) (hl.imp id (fun ⟨s, hs, e⟩ => ⟨s, by omega, e⟩)) 12 0 (N - 1) X0 (by omega) (by omega) (fun _ _ => rfl) (fun y' h1 => by omega)
  have ec : zf_X4_setCosts__28 N (X0 8 1) X0 J = some (0, X1, J) := by
    obtain ⟨M, rfl⟩ := zu_one N hN
    rw [zo_X4_setCosts__28]
    exact g3
  have s1 : zi_sc n X1 := zc_sc sc0 (by rw [g1 5 (by omega)]) (g1 6 (by omega)) (g1 7 (by omega)) (by rw [g1 52 (by omega)]) (g1 54 (by omega))
  have mi : ∀ y, y < n → ∃ v, v ≤ 9 ∧ I 54 (7 * y + 1) = nI v ∧ zz_f X0 (nI y) 1 = nI v := fun y hy => by
    obtain ⟨_, ⟨v, _, hv, e⟩, _⟩ := hsc.2.2.2.2.1 y hy
    have e : I 54 (7 * y + 1) = nI v := e
    refine ⟨v, hv, e, ?_⟩
    rw [zu_cf1 (by omega), sc0.2.2.2.1 _ (by omega), E54]; exact e
  have hW : ∀ x y, (x = 12 ∨ x < n) → y < n → X1 42 (x * 12 + y) = nI (zw_c m (I 58) (I 54) (I 53 13) x y) ∧ zw_c m (I 58) (I 54) (I 53 13) x y ≤ 108 := fun x y hx hy => by
    obtain ⟨v, hv, e1, e2⟩ := mi y hy
    unfold zw_c
    rw [e1, nI_clamp (by omega)]
    by_cases q : x = 12
    · subst q
      rw [if_pos rfl, show 12 * 12 + y = 144 + y by omega, (g2 y (by omega)).2, e2, l13]
      by_cases z : I 53 13 = -1
      · rw [if_pos z, z]
        refine ⟨?_, by omega⟩
        rw [show zv_X1_between X0 (-1) (nI y) = 0 from if_pos (by decide), Nat.zero_add]
        exact Int32.zero_add _
      · rw [if_neg z]
        obtain ⟨s, hs, es⟩ := hl.resolve_left (by rw [l13]; exact z)
        rw [l13] at es
        obtain ⟨k, hk, ek⟩ := zq_chgN m (I 58) (fun w => I 54 (7 * s + w)) (fun w => I 54 (7 * y + w))
        rw [es, bt' s y hs hy, nI_clamp (by omega)]
        unfold zt_c
        rw [E54, E58, ek, nI_clamp (by omega)]
        exact ⟨nI_add k v, by omega⟩
    · rw [if_neg q, (g2 y (by omega)).1 x (by omega), e2, bt' x y (by omega) hy]
      unfold zt_c
      obtain ⟨k, hk, ek⟩ := zq_chgN m (I 58) (fun w => I 54 (7 * x + w)) (fun w => I 54 (7 * y + w))
      rw [E54, E58, ek, nI_clamp (by omega)]
      exact ⟨nI_add k v, by omega⟩
  obtain ⟨X, k1, k2, k3, k4⟩ := zs_lay hN (J := J) s1 (X1 8 2) hW
  have e82 : X1 8 2 = I 8 2 := by rw [g1 8 (by omega), E8]
  rw [show X1 54 = I 54 by rw [g1 54 (by omega), E54], e82] at k4
  have fx : ∀ x, x ≠ 41 → x ≠ 42 → x ≠ 43 → X x = X0 x := fun x a b c => by rw [k2 x a c, g1 x b]
  refine ⟨X, m, ?_, zc_rul h0 (by rw [fx 52 (by omega) (by omega) (by omega)]) (by rw [fx 28 (by omega) (by omega) (by omega)]) (by rw [fx 28 (by omega) (by omega) (by omega)]) (fx 29 (by omega) (by omega) (by omega)) (fx 31 (by omega) (by omega) (by omega)) (fx 58 (by omega) (by omega) (by omega)) (fx 54 (by omega) (by omega) (by omega)), ⟨ru.1, by rw [fx 52 (by omega) (by omega) (by omega)]; exact ru.2.1, by rw [fx 58 (by omega) (by omega) (by omega), E58], by rw [← E58]; exact ru.2.2.2.1, ru.2.2.2.2⟩, k4, fun x a1 a2 a3 a4 a5 a6 => by rw [fx x a4 a5 a6, x1 x a1 a2 a3], fun i i1 i2 => by rw [k3 i i1 i2, g1 41 (by omega), x1 41 (by omega) (by omega) (by omega)]⟩
  obtain ⟨M, rfl⟩ := zu_one N hN
  rw [zo_X11_readyLoom__28]
  exact zu_bd e0 (zu_bd ec (zu_bd k1 rfl))
theorem zs_readyB {N n : Nat} (hN : 100000 ≤ N) {I : Nat → Nat → Int32} {J : Nat → Nat → Int64} (hsc : zi_sc n I) (h8 : I 8 1 = I 53 13) (hlast : I 53 13 = -1 ∨ ∃ s, s < n ∧ I 53 13 = nI s) {m cs : Nat} {tx : Nat → Int32} (hcs : cs ≤ 40) (h3 : I 32 3 = nI cs) (h4 : I 32 4 = 0) (hev : ∀ e, zc_s e (I 33) cs = [zq_val m tx e]) : ∃ X, zf_X11_readyLoom__32 N I J = some (0, X, J) ∧ zw_L (zw_p n (I 54) (I 8 2) 0) (zw_p n (I 54) (I 8 2) 1) (zw_a n (I 54) (I 8 2) 0) (zw_a n (I 54) (I 8 2) 1) (zw_c m tx (I 54) (I 53 13)) X ∧ (∀ x, x ≠ 32 → x ≠ 34 → x ≠ 35 → x ≠ 41 → x ≠ 42 → x ≠ 43 → X x = I x) := by
  have hn := hsc.1
  obtain ⟨Xf, f1, f2, f3⟩ := zs_freshB_o hN (J := J) hsc hcs h3 hev n 0 (N - 1) I (by omega) (by omega) (fun _ _ _ => rfl) (fun a' b' _ _ w => by omega)
  have mn : zz_min (I 5 2) 12 = nI n := by
    rw [hsc.2.2.1]
    unfold zz_min
    by_cases q : n = 12
    · subst q; rfl
    · rw [if_neg (show ¬ (12 : Int32) < nI n from nI_nlt (a := 12) (by omega) (by omega))]
  obtain ⟨X0, hX0⟩ : ∃ X0, X0 = zz_u Xf 32 4 1 := ⟨_, rfl⟩
  have e0 : zf_X1_refresh_32__5 N I J = some (0, X0, J) := by
    rw [← hX0] at f1
    obtain ⟨M, rfl⟩ := zu_one N hN
    rw [zo_X1_refresh_32__5]
    unfold zb_X1_refresh_32__5_0
    rw [h4, if_pos rfl, mn]
    exact f1
  have x1 : ∀ x, x ≠ 32 → x ≠ 34 → x ≠ 35 → X0 x = I x := fun x a b c => by rw [hX0, zu_ux a, f2 x b c]
  have bt' : ∀ a b, a < n → b < n → zv_X1_between_32 X0 (nI a) (nI b) = zt_d m tx I a b := fun a b ha hb => by
    unfold zv_X1_between_32
    have ix : nI a * 12 + nI b = nI (12 * a + b) := by
      rw [show nI a * 12 = nI (a * 12) from pk_mul a 12, nI_add, Nat.mul_comm a 12]
    rw [if_neg (nI_pos (by omega)), if_neg (show ¬ (12 : Int32) ≤ nI a from nI_ge (b := 12) (by omega) (by omega)), if_neg (nI_pos (by omega)), if_pos (show nI b < 12 from nI_lt (b := 12) (by omega) (by omega)), ix, nI_clamp (by omega), hX0, zu_ux (by omega), f3 a b ha hb]
  have sc0 : zi_sc n X0 := zc_sc hsc (by rw [x1 5 (by omega) (by omega) (by omega)]) (x1 6 (by omega) (by omega) (by omega)) (x1 7 (by omega) (by omega) (by omega)) (by rw [x1 52 (by omega) (by omega) (by omega)]) (x1 54 (by omega) (by omega) (by omega))
  have E54 : X0 54 = I 54 := x1 54 (by omega) (by omega) (by omega)
  have E53 : X0 53 = I 53 := x1 53 (by omega) (by omega) (by omega)
  have E8 : X0 8 = I 8 := x1 8 (by omega) (by omega) (by omega)
  have hl : X0 8 1 = -1 ∨ ∃ s, s < n ∧ X0 8 1 = nI s := by
    rw [E8, h8]
    exact hlast
  have l13 : X0 8 1 = I 53 13 := by rw [E8, h8]
  obtain ⟨X1, g1, g2, g3⟩ := zw_scB_o (N := N) (I := X0) (J := J) (last := X0 8 1) (hl.imp id (fun ⟨s, hs, e⟩ => ⟨s, by omega, e⟩)) 12 0 (N - 1) X0 (by omega) (by omega) (fun _ _ => rfl) (fun y' h1 => by omega)
  have ec : zf_X4_setCosts__32 N (X0 8 1) X0 J = some (0, X1, J) := by
    obtain ⟨M, rfl⟩ := zu_one N hN
    rw [zo_X4_setCosts__32]
    exact g3
  have s1 : zi_sc n X1 := zc_sc sc0 (by rw [g1 5 (by omega)]) (g1 6 (by omega)) (g1 7 (by omega)) (by rw [g1 52 (by omega)]) (g1 54 (by omega))
  have mi : ∀ y, y < n → ∃ v, v ≤ 9 ∧ I 54 (7 * y + 1) = nI v ∧ zz_f X0 (nI y) 1 = nI v := fun y hy => by
    obtain ⟨_, ⟨v, _, hv, e⟩, _⟩ := hsc.2.2.2.2.1 y hy
    have e : I 54 (7 * y + 1) = nI v := e
    refine ⟨v, hv, e, ?_⟩
    rw [zu_cf1 (by omega), sc0.2.2.2.1 _ (by omega), E54]; exact e
  have hW : ∀ x y, (x = 12 ∨ x < n) → y < n → X1 42 (x * 12 + y) = nI (zw_c m tx (I 54) (I 53 13) x y) ∧ zw_c m tx (I 54) (I 53 13) x y ≤ 108 := fun x y hx hy => by
    obtain ⟨v, hv, e1, e2⟩ := mi y hy
    unfold zw_c
    rw [e1, nI_clamp (by omega)]
    by_cases q : x = 12
    · subst q
      rw [if_pos rfl, show 12 * 12 + y = 144 + y by omega, (g2 y (by omega)).2, e2, l13]
      by_cases z : I 53 13 = -1
      · rw [if_pos z, z]
        refine ⟨?_, by omega⟩
        rw [show zv_X1_between_32 X0 (-1) (nI y) = 0 from if_pos (by decide), Nat.zero_add]
        exact Int32.zero_add _
      · rw [if_neg z]
        obtain ⟨s, hs, es⟩ := hl.resolve_left (by rw [l13]; exact z)
        rw [l13] at es
        obtain ⟨k, hk, ek⟩ := zq_chgN m tx (fun w => I 54 (7 * s + w)) (fun w => I 54 (7 * y + w))
        rw [es, bt' s y hs hy, nI_clamp (by omega)]
        unfold zt_d
        rw [ek, nI_clamp (by omega)]
        exact ⟨nI_add k v, by omega⟩
    · rw [if_neg q, (g2 y (by omega)).1 x (by omega), e2, bt' x y (by omega) hy]
      unfold zt_d
      obtain ⟨k, hk, ek⟩ := zq_chgN m tx (fun w => I 54 (7 * x + w)) (fun w => I 54 (7 * y + w))
      rw [ek, nI_clamp (by omega)]
      exact ⟨nI_add k v, by omega⟩
  obtain ⟨X, k1, k2, k3, k4⟩ := zs_lay hN (J := J) s1 (X1 8 2) hW
  have e82 : X1 8 2 = I 8 2 := by rw [g1 8 (by omega), E8]
  rw [show X1 54 = I 54 by rw [g1 54 (by omega), E54], e82] at k4
  have fx : ∀ x, x ≠ 41 → x ≠ 42 → x ≠ 43 → X x = X0 x := fun x a b c => by rw [k2 x a c, g1 x b]
  refine ⟨X, ?_, k4, fun x a1 a2 a3 a4 a5 a6 => by rw [fx x a4 a5 a6, x1 x a1 a2 a3]⟩
  obtain ⟨M, rfl⟩ := zu_one N hN
  rw [zo_X11_readyLoom__32]
  exact zu_bd e0 (zu_bd ec (zu_bd k1 rfl))
