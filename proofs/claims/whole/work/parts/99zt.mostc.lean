/-! THE MOST OVER ALL ORDERS: the class's table -/
theorem zs_mb0 {N m : Nat} {I : Nat → Nat → Int32} {J : Nat → Nat → Int64} {F : zz_F} {pv : Int32} (hK : zz_XK F.2.2.1 (zz_mo F) = 14) (hL : 2 ^ m ≤ zz_XL F.2.2.2.2.1 F.2.2.2.1 (zz_mo F)) (hL2 : zz_XL F.2.2.2.2.1 F.2.2.2.1 (zz_mo F) ≤ 4096) : ∀ r S u (X : Nat → Nat → Int32), S + r = 2 ^ m → r < u → (∀ y, y ≠ zz_mo F → X y = I y) → (∀ T, T < S → X (zz_mo F) T = 0) → ∃ X' u', u ≤ u' + r + 1 ∧ zl_X10_mostBrought N u 29 pv (nI m) (nI (2 ^ m)) (nI S) X J F = zl_X10_mostBrought N u' 59 pv (nI m) (nI (2 ^ m)) 0 X' J F ∧ (∀ y, y ≠ zz_mo F → X' y = I y) ∧ ∀ T, T < 2 ^ m → X' (zz_mo F) T = 0 := by
  generalize hb0 : zz_mo F = b at *
  generalize hL0 : zz_XL F.2.2.2.2.1 F.2.2.2.1 b = L at *
  generalize hP : 2 ^ m = P at *
  intro r
  induction r with
  | zero =>
    intro S u X hS hu hX h0
    obtain ⟨v, rfl⟩ : ∃ v, u = v + 1 := ⟨u - 1, by omega⟩
    obtain rfl : S = P := by omega
    refine ⟨X, v, by omega, ?_, hX, h0⟩
    rw [zo_X10_mostBrought_29]
    unfold zb_X10_mostBrought_29
    rw [if_pos (nI_le (Nat.le_refl S) (by omega))]
  | succ r ih =>
    intro S u X hS hu hX h0
    obtain ⟨v, rfl⟩ : ∃ v, u = v + 1 := ⟨u - 1, by omega⟩
    obtain ⟨X', u', a1, a2, a3, a4⟩ := ih (S + 1) v (zz_u X b S 0) (by omega) (by omega) (fun y hy => by rw [zu_ux hy]; exact hX y hy) (fun T hT => by
      by_cases e : T = S
      · subst e; exact zz_us _ _ _ _
      · rw [zz_un (fun w => e w.2)]; exact h0 T (by omega))
    refine ⟨X', u', by omega, ?_, a3, a4⟩
    rw [zo_X10_mostBrought_29]
    unfold zb_X10_mostBrought_29
    rw [hb0, hL0]
    rw [if_neg (nI_ge (show S < P by omega) (by omega)), if_pos hK, if_neg (nI_ge (show S < L by omega) (by omega)), if_pos (nI_in (show S < L by omega) (by omega)), nI_clamp (by omega), nI_1]
    exact a2
/-- what a scene brings behind a set -/
def zc_br (f : Nat → Int32) (k0 : Int32) (n s t : Nat) : Int32 := zh_br (f (7 * s + 5)) (f (7 * s + 6)) (zc_K f k0 t n)
theorem zs_mb1 {N n c : Nat} (hN : 100000 ≤ N) {I : Nat → Nat → Int32} {J : Nat → Nat → Int64} {F : zz_F} {pv k0 : Int32} (h : zi_sc n I) (hc : c < 4096) (hkn : zz_kn I pv = k0) (hmine : ∀ i, i < n → c.testBit i = true → I 47 (zc_cn c i) = nI i) (hK : zz_XK F.2.2.1 (zz_mo F) = 14) (hL : 2 ^ zc_cn c n ≤ zz_XL F.2.2.2.2.1 F.2.2.2.1 (zz_mo F)) (hL2 : zz_XL F.2.2.2.2.1 F.2.2.2.1 (zz_mo F) ≤ 4096) (hb : zz_mo F = 48 ∨ 84 ≤ zz_mo F) : ∀ r S u (X : Nat → Nat → Int32), S + r = 2 ^ zc_cn c n → r < u → (∀ y, y ≠ zz_mo F → X y = I y) → zc_B (zc_cn c n) (X (zz_mo F)) (fun k T => zc_br (I 54) k0 n (I 47 k).toNatClampNeg (zc_ph c T n)) S 0 → ∃ X', zl_X10_mostBrought N u 62 pv (nI (zc_cn c n)) (nI (2 ^ zc_cn c n)) (nI S) X J F = some (X' (zz_mo F) (2 ^ zc_cn c n - 1), X', J, F) ∧ (∀ y, y ≠ zz_mo F → X' y = I y) ∧ zc_B (zc_cn c n) (X' (zz_mo F)) (fun k T => zc_br (I 54) k0 n (I 47 k).toNatClampNeg (zc_ph c T n)) (2 ^ zc_cn c n) 0 := by
  have hn := h.1
  have m12 : zc_cn c n ≤ 12 := Nat.le_trans (zc_cn_b c n) hn
  have p0 : 0 < 2 ^ zc_cn c n := Nat.two_pow_pos _
  intro r
  induction r with
  | zero =>
    intro S u X hS hu hX hB
    obtain ⟨v, rfl⟩ : ∃ v, u = v + 1 := ⟨u - 1, by omega⟩
    obtain rfl : S = 2 ^ zc_cn c n := by omega
    refine ⟨X, ?_, hX, hB⟩
    obtain ⟨w, hw⟩ : ∃ w, 2 ^ zc_cn c n = w + 1 := ⟨2 ^ zc_cn c n - 1, by omega⟩
    rw [zo_X10_mostBrought_62]
    unfold zb_X10_mostBrought_62
    rw [if_pos (nI_le (Nat.le_refl _) (by omega)), if_pos hK, hw, nI_pred, if_neg (nI_ge (by omega) (by omega)), if_pos (nI_in (by omega) (by omega)), nI_clamp (by omega)]
    rfl
  | succ r ih =>
    intro S u X hS hu hX hB
    obtain ⟨v, rfl⟩ : ∃ v, u = v + 1 := ⟨u - 1, by omega⟩
    have x54 : X 54 = I 54 := hX 54 (by omega)
    have x47 : X 47 = I 47 := hX 47 (by omega)
    have sc : zi_sc n X := zc_sc h (by rw [hX 5 (by omega)]) (hX 6 (by omega)) (hX 7 (by omega)) (by rw [hX 52 (by omega)]) x54
    have kn : zz_kn X pv = k0 := by rw [← hkn]; unfold zz_kn; rw [hX 8 (by omega)]
    have tl : zf_X10_toldBy N (nI S) (nI (zc_cn c n)) X J = some (zc_to X S (zc_cn c n), X, J) := by
      obtain ⟨M, rfl⟩ := zu_one N hN
      rw [zo_X10_toldBy]
      exact zs_told_l m12 (by omega) (zc_cn c n) 0 M (by omega) (by omega)
    have tk := zc_toK (T := S) sc (c := c) (fun i a b => by rw [x47]; exact hmine i a b) k0 n (Nat.le_refl n)
    rw [x54] at tk
    obtain ⟨X1, a1, a2, a3⟩ := zs_spr_l (N := N) (J := J) (F := F) (m := zc_cn c n) (S := S) (kn := zc_K (I 54) k0 (zc_ph c S n) n) (g := fun k T => zc_br (I 54) k0 n (I 47 k).toNatClampNeg (zc_ph c T n)) (mi := fun k => (I 47 k).toNatClampNeg) sc m12 (by omega) hK hL hL2 hb (fun k hk => by
      obtain ⟨s, s1, s2, s3⟩ := zc_on n hk
      subst s3
      show X 47 (zc_cn c s) = nI (I 47 (zc_cn c s)).toNatClampNeg ∧ (I 47 (zc_cn c s)).toNatClampNeg < n
      rw [x47, hmine s s1 s2, nI_clamp (by omega)]
      exact ⟨rfl, s1⟩) (fun k hk => by rw [x54]; rfl) _ 0 (N - 1) X (Nat.zero_add _) (by omega) (fun _ _ => rfl) hB
    have sp : zf_X10_spread N (nI S) (nI (zc_cn c n)) (zc_K (I 54) k0 (zc_ph c S n) n) X J F = some (0, X1, J, F) := by
      obtain ⟨M, rfl⟩ := zu_one N hN
      rw [zo_X10_spread]
      exact a1
    obtain ⟨X', b1, b2, b3⟩ := ih (S + 1) v X1 (by omega) (by omega) (fun y hy => by rw [a2 y hy]; exact hX y hy) (zc_Bn a3)
    refine ⟨X', ?_, b2, b3⟩
    rw [zo_X10_mostBrought_62]
    unfold zb_X10_mostBrought_62
    rw [if_neg (nI_ge (show S < 2 ^ zc_cn c n by omega) (by omega)), tl, Option.bind_some]
    dsimp only
    rw [kn, tk, sp, Option.bind_some]
    dsimp only
    rw [nI_1]
    exact b1
theorem zs_mb {N n : Nat} (hN : 100000 ≤ N) {I : Nat → Nat → Int32} {J : Nat → Nat → Int64} {F : zz_F} (h : zi n I J F) {pv k0 : Int32} {c : Nat} (hc : c < 4096) (ho : I 8 2 &&& zv_X9_scenesOf I pv = nI c) (hkn : zz_kn I pv = k0) : ∃ A X J' F', zf_X10_mostBrought N pv I J F = some (A (2 ^ zc_cn c n - 1), X, J', F') ∧ (∀ y, y ≠ 47 → y ≠ 48 → y < 84 → X y = I y) ∧ (∀ y, y < 84 → J' y = J y) ∧ zi_F F' ∧ (F'.1 ≤ F.1 + 1 ∧ F'.2.1 ≤ F.2.1 + 8192) ∧ ∃ mine : Nat → Nat, (∀ s, s < n → c.testBit s = true → mine (zc_cn c s) = s) ∧ ∀ T, T < 2 ^ zc_cn c n → zc_M (zc_cn c n) (fun k => T.testBit k = true) (zc_V A (fun k T => zc_br (I 54) k0 n (mine k) (zc_ph c T n)) T) (A T) := by
  have hn := h.1.1
  have m12 : zc_cn c n ≤ 12 := Nat.le_trans (zc_cn_b c n) hn
  have p0 : 0 < 2 ^ zc_cn c n := Nat.two_pow_pos _
  obtain ⟨e2p, p4⟩ := zc_2p (zc_cn c n) (by omega)
  obtain ⟨f1, f2, f3, f4, f5⟩ := h.2.2.2.2.2.2.2.2
  obtain ⟨X0, g1, g2, g3⟩ := zs_gat_l (N := N) (J := J) hn hc h.1.2.2.1 n 0 (N - 1) I (by omega) (by omega) (fun _ _ => rfl) (fun i hi => by omega)
  have ga : zf_X10_gather N pv I J = some (nI (zc_cn c n), X0, J) := by
    obtain ⟨M, rfl⟩ := zu_one N hN
    rw [zo_X10_gather]
    unfold zb_X10_gather_0
    rw [ho]
    exact g1
  -- the table, at hand or made anew
  have tab : ∃ X1 J1 F1, zf_X10_mostBrought N pv I J F = zl_X10_mostBrought N (N - 1) 26 pv (nI (zc_cn c n)) (nI (2 ^ zc_cn c n)) 0 X1 J1 F1 ∧ (∀ y, y < 84 → X1 y = X0 y) ∧ (∀ y, y < 84 → J1 y = J y) ∧ zi_F F1 ∧ 2 ^ zc_cn c n ≤ zz_XL F1.2.2.2.2.1 F1.2.2.2.1 (zz_mo F1) ∧ F1.1 ≤ F.1 + 1 ∧ F1.2.1 ≤ F.2.1 + 8192 := by
    have st : zf_X10_mostBrought N pv I J F = zb_X10_mostBrought_0 N (zl_X10_mostBrought N (N - 1)) pv 0 0 0 I J F := by
      obtain ⟨M, rfl⟩ := zu_one N hN
      exact zo_X10_mostBrought M pv I J F
    by_cases q : 2 ^ zc_cn c n ≤ zz_XL F.2.2.2.2.1 F.2.2.2.1 (zz_mo F)
    · refine ⟨X0, J, F, ?_, fun _ _ => rfl, fun _ _ => rfl, ⟨f1, f2, f3, f4, f5⟩, q, by omega, by omega⟩
      rw [st]
      unfold zb_X10_mostBrought_0
      refine zu_bd ga (zu_gd f3 ?_)
      dsimp only
      rw [e2p]
      exact zu_gd (nI_le q (by omega)) rfl
    · refine ⟨va_up X0 (F.1 + 2) (fun _ => 0), va_up J (F.1 + 2) (fun _ => 0), zz_Fmo (zz_Fnew F (2 ^ zc_cn c n)) (F.1 + 2), ?_, fun y hy => ?_, fun y hy => ?_, ⟨?_, f2, ?_, .inr ⟨?_, ?_⟩, ?_⟩, ?_, Nat.le_refl _, ?_⟩
      · rw [st]
        unfold zb_X10_mostBrought_0
        refine zu_bd ga (zu_gd f3 ?_)
        dsimp only
        rw [e2p, nI_clamp (by omega)]
        exact zu_gn (nI_ge (by omega) (by omega)) (zu_gd (nI_pos (by omega)) (zu_gd (by omega) (zu_gd f1 rfl)))
      · show (if y = F.1 + 2 then _ else _) = _
        rw [if_neg (by omega)]
      · show (if y = F.1 + 2 then _ else _) = _
        rw [if_neg (by omega)]
      · show 82 ≤ F.1 + 1
        omega
      · show zz_XK (va_up F.2.2.1 (F.1 + 2) 14) (F.1 + 2) = 14
        rw [zc_XK (by omega)]
        exact if_pos rfl
      · show 84 ≤ F.1 + 2
        omega
      · show F.1 + 2 < F.1 + 1 + 2
        omega
      · show zz_XL _ (va_up F.2.2.2.1 (F.1 + 2) (2 ^ zc_cn c n)) (F.1 + 2) ≤ 4096
        rw [zc_XL (by omega)]
        show (if F.1 + 2 = F.1 + 2 then 2 ^ zc_cn c n else _) ≤ 4096
        rw [if_pos rfl]
        exact p4
      · show 2 ^ zc_cn c n ≤ zz_XL _ (va_up F.2.2.2.1 (F.1 + 2) (2 ^ zc_cn c n)) (F.1 + 2)
        rw [zc_XL (by omega)]
        show 2 ^ zc_cn c n ≤ (if F.1 + 2 = F.1 + 2 then 2 ^ zc_cn c n else _)
        rw [if_pos rfl]
        exact Nat.le_refl _
      · show F.2.1 + 2 ^ zc_cn c n ≤ F.2.1 + 8192
        omega
  obtain ⟨X1, J1, F1, t1, t2, t3, t4, t5, t6⟩ := tab
  have t4' := t4
  obtain ⟨_, _, k3, k4, k5⟩ := t4'
  have k4' : zz_mo F1 = 48 ∨ 84 ≤ zz_mo F1 := k4.imp id (fun w => w.1)
  have x1 : ∀ y, y ≠ 47 → y < 84 → X1 y = I y := fun y a b => by rw [t2 y b, g2 y a]
  have sc1 : zi_sc n X1 := zc_sc h.1 (by rw [x1 5 (by omega) (by omega)]) (x1 6 (by omega) (by omega)) (x1 7 (by omega) (by omega)) (by rw [x1 52 (by omega) (by omega)]) (x1 54 (by omega) (by omega))
  obtain ⟨X2, u2, b1, b2, b3, b4⟩ := zs_mb0 (N := N) (I := X1) (J := J1) (F := F1) (m := zc_cn c n) (pv := pv) k3 t5 k5 (2 ^ zc_cn c n) 0 (N - 2) X1 (by omega) (by omega) (fun _ _ => rfl) (fun T hT => by omega)
  have sc2 : zi_sc n X2 := zc_sc sc1 (by rw [b3 5 (by omega)]) (b3 6 (by omega)) (b3 7 (by omega)) (by rw [b3 52 (by omega)]) (b3 54 (by omega))
  have x47 : X2 47 = X0 47 := by rw [b3 47 (by omega), t2 47 (by omega)]
  have x54 : X2 54 = I 54 := by rw [b3 54 (by omega), x1 54 (by omega) (by omega)]
  obtain ⟨X, d1, d2, d3⟩ := zs_mb1 hN (c := c) (F := F1) (J := J1) (I := X2) (pv := pv) (k0 := k0) sc2 hc (by rw [← hkn]; unfold zz_kn; rw [b3 8 (by omega), x1 8 (by omega) (by omega)]) (fun i a b => by rw [x47]; exact g3 i a b) k3 t5 k5 k4' (2 ^ zc_cn c n) 0 (u2 - 1) X2 (by omega) (by omega) (fun _ _ => rfl) (zc_B0 b4)
  refine ⟨X (zz_mo F1), X, J1, F1, ?_, fun y y1 y2 y3 => ?_, t3, t4, t6, fun k => (X2 47 k).toNatClampNeg, fun s s1 s2 => ?_, fun T hT => ?_⟩
  · rw [t1]
    obtain ⟨v, hv⟩ : ∃ v, N - 1 = v + 1 := ⟨N - 2, by omega⟩
    rw [hv, zo_X10_mostBrought_26]
    unfold zb_X10_mostBrought_26
    rw [show v = N - 2 by omega]
    refine b2.trans ?_
    obtain ⟨w, hw⟩ : ∃ w, u2 = w + 1 := ⟨u2 - 1, by omega⟩
    rw [hw, zo_X10_mostBrought_59]
    unfold zb_X10_mostBrought_59
    rw [show w = u2 - 1 by omega]
    exact d1
  · rw [d2 y (by omega), b3 y (by omega), x1 y y1 y3]
  · show (X2 47 (zc_cn c s)).toNatClampNeg = s
    rw [x47, g3 s s1 s2, nI_clamp (by omega)]
  · have w := d3 T hT
    rw [x54] at w
    exact zc_Mc w (fun j hj => ⟨fun q => ⟨q, .inl (Nat.lt_trans (zc_dlt q) hT)⟩, fun q => q.1⟩) (fun _ _ _ => rfl)
theorem zs_bio {N n : Nat} (hN : 100000 ≤ N) {I : Nat → Nat → Int32} {J : Nat → Nat → Int64} (h : zi_sc n I) {pv k0 : Int32} {c : Nat} (hc : c < 4096) (ho : I 8 2 &&& zv_X9_scenesOf I pv = nI c) (hkn : zz_kn I pv = k0) : zf_X10_broughtInOrder N pv I J = some (zc_G (I 54) k0 c n, I, J) := by
  have hn := h.1
  have l := zs_bio_l hN (J := J) h hc k0 n 0 (N - 1) (by omega) (by omega)
  obtain ⟨M, rfl⟩ := zu_one N hN
  rw [zo_X10_broughtInOrder]
  unfold zb_X10_broughtInOrder_0
  rw [ho, hkn]
  exact l
