/-! WEAVE, TURN, WEAVES -/
theorem zw_l_ct (P : Nat → Bool) : ∀ k, (zw_l P k).length = zu_ct P k
  | 0 => rfl
  | k + 1 => by
    rw [zw_l_s]
    show _ = zu_ct P k + (if P k = true then 1 else 0)
    by_cases c : P k = true
    · rw [if_pos c, if_pos c, List.length_append, List.length_singleton, zw_l_ct P k]
    · rw [if_neg c, if_neg c, zw_l_ct P k]
      rfl
theorem zu_ct_two {P Q R : Nat → Bool} (h : ∀ s, R s = (P s || Q s)) (h2 : ∀ s, P s = true → Q s = true → False) : ∀ k, zu_ct P k + zu_ct Q k = zu_ct R k
  | 0 => rfl
  | k + 1 => by
    have ih := zu_ct_two h h2 k
    show (zu_ct P k + (if P k = true then 1 else 0)) + (zu_ct Q k + (if Q k = true then 1 else 0)) = zu_ct R k + (if R k = true then 1 else 0)
    rw [h k]
    cases a : P k <;> cases b : Q k
    · simp; omega
    · simp; omega
    · simp; omega
    · exact (h2 k a b).elim
theorem zw_bc {n : Nat} (hn : n ≤ 12) {f : Nat → Int32} {set : Int32} (hf : ∀ s, s < n → zi_fd (fun w => f (7 * s + w))) (hs : ∀ s, n ≤ s → s < 32 → bt set s = false) : zv_J6_bitCount set = nI (zw_p n f set 0 + zw_p n f set 1) := by
  rw [zu_bc (fun i h1 h2 => hs i (by omega) h2)]
  unfold zw_p zw_s
  rw [zw_l_ct, zw_l_ct]
  congr 1
  symm
  have mem : ∀ pl s, bt (zh_P n f set (nI pl)) s = true → s < n ∧ bt set s = true ∧ f (7 * s) = nI pl := fun pl s h => by
    rcases Nat.lt_or_ge s 12 with w | w
    · exact (zw_s_mem hn (f := f) (set := set) (pl := pl) (s := s)).mp (zw_l_mem.mpr ⟨w, h⟩)
    · unfold zh_P at h
      rw [zu_set_out (by omega) (by omega)] at h; cases h
  refine zu_ct_two (fun s => ?_) (fun s h1 h2 => ?_) 12
  · cases hb : bt set s with
    | false =>
      have a : ∀ pl, bt (zh_P n f set (nI pl)) s = false := fun pl => by
        cases c : bt (zh_P n f set (nI pl)) s with
        | false => rfl
        | true => have := (mem pl s c).2.1; rw [hb] at this; cases this
      rw [a, a]; rfl
    | true =>
      have sn : s < n := Nat.lt_of_not_le (fun w => by
        rcases Nat.lt_or_ge s 32 with z | z
        · rw [hs s w z] at hb; cases hb
        · rw [b_big z] at hb; cases hb)
      obtain ⟨⟨v, hv, e⟩, _⟩ := hf s sn
      have e : f (7 * s) = nI v := e
      have g : bt (zh_P n f set (nI v)) s = true := by
        unfold zh_P
        rw [zu_set_at (by omega) sn, hb, e]; simp
      rcases (by omega : v = 0 ∨ v = 1) with rfl | rfl
      · rw [g]; rfl
      · rw [g, Bool.or_true]
  · have := (mem 0 s h1).2.2.symm.trans (mem 1 s h2).2.2
    exact absurd this (by decide)
/-- the reference's weaves, from a memory that keeps the night -/
theorem zm_lwI {N n : Nat} (hN : 100000 ≤ N) {I P : Nat → Nat → Int32} {J J' : Nat → Nat → Int64} {F : zz_F} (h : zi n I J F) {m : Nat} (ru : zr_ru m (I 58) P F) (h53 : P 53 = I 53) (h54 : P 54 = I 54) (h1 : P 52 1 = I 52 1) : ∃ I' F', zf_X12_layWeaves N P J' F = some (0, I', J', F') ∧ zw_R I' (zw_go (zw_p n (I 54) (I 8 2) 0) (zw_p n (I 54) (I 8 2) 1) (zw_a n (I 54) (I 8 2) 0) (zw_a n (I 54) (I 8 2) 1) (zw_c m (I 58) (I 54) (I 53 13)) (P 72 0) (P 72 1) (zw_p n (I 54) (I 8 2) 0 + zw_p n (I 54) (I 8 2) 1) 0 0 12 0 [] 0 0 (zw_a0 (P 71))) ∧ zw_fr P I' ∧ zF_re F F' := by
  have r := zm_lw hN (J := J') h.1.1 (I := P) (by rw [h54]; exact h.1.2.2.2.2.1) (by rw [h1]; exact h.1.2.1) (by rw [h53]; exact h.2.1.2.2.2.2.2.2.2.2.2.2) ru
  rw [h53, h54] at r
  rw [h.2.1.2.2.1]
  exact r
theorem zw_wh {n : Nat} {I : Nat → Nat → Int32} {J : Nat → Nat → Int64} {F : zz_F} (h : zi n I J F) : ∀ s, n ≤ s → s < 32 → bt (I 8 2) s = false := fun s s1 s2 => by
  have := h.1.1
  rw [h.2.1.2.2.1]
  exact zu_set_out (by omega) s1
theorem zm_wl {N n K : Nat} (hN : 100000 ≤ N) (hn : n ≤ 12) (hK : K ≤ 12) {I : Nat → Nat → Int32} {J : Nat → Nat → Int64} {F : zz_F} (h1 : I 52 1 = nI n) (hb : zv_J6_bitCount (zh_W n (I 53) 0) = nI K) {L : Nat → Nat} (h66 : ∀ k, k < K → I 66 k = nI (L k)) : ∀ r k u (X : Nat → Nat → Int32) (Y : Nat → Nat → Int64), k + r = K → r < u → (∀ y, y ≠ 52 → X y = I y) → (∀ i, i ≠ 6 → X 52 i = I 52 i) → X 52 6 = nI k → (∀ y, y ≠ 56 → Y y = J y) → (∀ i, i < k → Y 56 i = (nI (L i)).toInt64) → ∃ X' Y', zl_X12_weave N u 16 (nI k) X Y F = some (I 52 29, X', Y', F) ∧ (∀ y, y ≠ 52 → X' y = I y) ∧ (∀ i, i ≠ 6 → X' 52 i = I 52 i) ∧ X' 52 6 = nI K ∧ (∀ y, y ≠ 56 → Y' y = J y) ∧ ∀ i, i < K → Y' 56 i = (nI (L i)).toInt64 := by
  intro r
  induction r with
  | zero =>
    intro k u X Y hk hu hX h52 h6 hY hY4
    obtain ⟨v, rfl⟩ : ∃ v, u = v + 1 := ⟨u - 1, by omega⟩
    obtain rfl : k = K := by omega
    refine ⟨X, Y, ?_, hX, h52, h6, hY, hY4⟩
    rw [zo_X12_weave_16]
    unfold zb_X12_weave_16
    rw [zm_where hN hn (by rw [h52 1 (by omega)]; exact h1), Option.bind_some]
    dsimp only
    rw [hX 53 (by omega), hb, if_pos (nI_le (Nat.le_refl k) (by omega)), h52 29 (by omega)]
  | succ r ih =>
    intro k u X Y hk hu hX h52 h6 hY hY4
    obtain ⟨v, rfl⟩ : ∃ v, u = v + 1 := ⟨u - 1, by omega⟩
    rw [zo_X12_weave_16]
    unfold zb_X12_weave_16
    rw [zm_where hN hn (by rw [h52 1 (by omega)]; exact h1), Option.bind_some]
    dsimp only
    rw [hX 53 (by omega), hb, if_neg (nI_ge (show k < K by omega) (by omega)), if_pos (nI_in (show k < 12 by omega) (by omega)), h6, if_pos (nI_in (show k < 20 by omega) (by omega)), nI_clamp (by omega), hX 66 (by omega), h66 k (by omega), nI_1]
    have ew : ∀ v : Int64, zw_X12_tell X Y v = zz_u X 52 6 (nI (k + 1)) := fun v => by
      show zz_u X 52 6 (X 52 6 + 1) = _
      rw [h6, nI_1]
    have ex : ∀ v : Int64, zx_X12_tell X Y v = zz_u Y 56 k v := fun v => by
      show zz_u Y 56 (X 52 6).toNatClampNeg v = _
      rw [h6, nI_clamp (by omega)]
    rw [ew, ex]
    exact ih (k + 1) v _ _ (by omega) (by omega) (fun y hy => by rw [zu_ux hy, hX y hy]) (fun i hi => by rw [zz_un (fun w => hi w.2), h52 i hi]) (zz_us _ _ _ _) (fun y hy => by rw [zu_ux hy, hY y hy]) (fun i hi => by
      by_cases e : i = k
      · rw [e, zz_us]
      · rw [zz_un (fun w => e w.2)]; exact hY4 i (by omega))
theorem zs_short {N p q : Nat} (hN : 100000 ≤ N) {A B : Nat → Nat} {W : Nat → Nat → Nat} {I : Nat → Nat → Int32} {J : Nat → Nat → Int64} (h : zw_L p q A B W I) : ∃ X', (∀ x, x ≠ 44 → X' x = I x) ∧ (∀ i' j', i' ≤ p → j' ≤ q → zw_T min p q A B W X' i' j') ∧ zf_X4_shortest N I J = some (nI (zw_D min p q A B W 0 0 12), X', J) := by
  obtain ⟨X', g1, g2, g3⟩ := zw_fill hN (w := 0) (by omega) (J := J) h
  refine ⟨X', g1, g2, ?_⟩
  obtain ⟨M, rfl⟩ := zu_one N hN
  rw [zo_X4_shortest]
  exact zu_bd g3 rfl
theorem zw_D0le {p q : Nat} {A B : Nat → Nat} {W : Nat → Nat → Nat} {I : Nat → Nat → Int32} (h : zw_L p q A B W I) : zw_D min p q A B W 0 0 12 ≤ 1296 := by
  have := zw_D_le (w := 0) (zw_W h) _ 0 0 12 rfl (.inl rfl)
  rw [show zw_op 0 = min from rfl] at this
  have := h.1
  omega
theorem zy_weave {N n : Nat} (hN : 100000 ≤ N) {I : Nat → Nat → Int32} {J : Nat → Nat → Int64} {F : zz_F} (h : zi n I J F) : ∃ v I1 J1 I2 J2 F2, zf_X11_weave N I J = some (v, I1, J1) ∧ zf_X12_weave N I1 J1 F = some (v, I2, J2, F2) ∧ zi n I2 J2 F2 := by
  have hn := h.1.1
  obtain ⟨X, m, e0, hX, ru, hL, fx, f41⟩ := zs_ready hN h
  have pq := hL.1
  obtain ⟨X1, g1, g2, g3⟩ := zs_short hN (J := J) hL
  have hL1 := zw_L_c hL (by rw [g1 41 (by omega)]) (by rw [g1 41 (by omega)]) (g1 42 (by omega)) (g1 43 (by omega))
  obtain ⟨X2, k1, k2, k3, k4, k5⟩ := zw_turns hN (J := J) hL1 g2
  obtain ⟨X3, J1, t1, t2, t3, t4, t5, t6⟩ := zw_tell hN (J := J) (by omega) k4 k5
  have hD := zw_D0le hL
  generalize hp : zw_p n (I 54) (I 8 2) 0 = p at *
  generalize hq : zw_p n (I 54) (I 8 2) 1 = q at *
  generalize hA : zw_a n (I 54) (I 8 2) 0 = A at *
  generalize hB : zw_a n (I 54) (I 8 2) 1 = B at *
  have A1 : zf_X11_weave N I J = some (nI (zw_D min p q A B (zw_c m (I 58) (I 54) (I 53 13)) 0 0 12), X3, J1) := by
    obtain ⟨M, rfl⟩ := zu_one N hN
    rw [zo_X11_weave]
    exact zu_bd e0 (zu_bd g3 (zu_bd k1 (zu_bd t1 rfl)))
  have c3 : ∀ y, y ≠ 2 → y ≠ 41 → y ≠ 45 → y ≠ 44 → X3 y = X y := fun y a b c d => by rw [t2 y a, k2 y b c, g1 y d]
  have cI : ∀ y, y ≠ 2 → y ≠ 41 → y ≠ 45 → y ≠ 44 → y ≠ 28 → y ≠ 30 → y ≠ 31 → y ≠ 42 → y ≠ 43 → X3 y = I y := fun y a b c d e f g i j => by rw [c3 y a b c d, fx y e f g b i j]
  have P52 : ∀ i, i ≠ 7 → zz_u X3 52 7 0 52 i = X 52 i := fun i hi => by rw [zz_un (fun w => hi w.2), c3 52 (by omega) (by omega) (by omega) (by omega)]
  have x52 : X 52 = I 52 := fx 52 (by omega) (by omega) (by omega) (by omega) (by omega) (by omega)
  obtain ⟨R, F2, r1, r2, r3, r4⟩ := zm_lwI hN (P := zz_u X3 52 7 0) (J' := J1) h (m := m) ⟨ru.1, by rw [P52 16 (by omega)]; exact ru.2.1, by rw [zu_ux (by omega), cI 58 (by omega) (by omega) (by omega) (by omega) (by omega) (by omega) (by omega) (by omega) (by omega)], ru.2.2.2⟩ (by rw [zu_ux (by omega), cI 53 (by omega) (by omega) (by omega) (by omega) (by omega) (by omega) (by omega) (by omega) (by omega)]) (by rw [zu_ux (by omega), cI 54 (by omega) (by omega) (by omega) (by omega) (by omega) (by omega) (by omega) (by omega) (by omega)]) (by rw [P52 1 (by omega), x52])
  rw [hp, hq, hA, hB] at r2
  obtain ⟨s1, s2⟩ := zw_g3 (A := A) (B := B) (X := zz_u X3 52 7 0 72 0) (Y := zz_u X3 52 7 0 72 1) (zw_W hL) (p + q) 0 0 12 0 [] 0 0 (zw_a0 (zz_u X3 52 7 0 71)) 1000000 (by omega) (.inl rfl) pq (by omega) (by omega) rfl
  rw [Nat.zero_add, show min 1000000 (zw_D min p q A B (zw_c m (I 58) (I 54) (I 53 13)) 0 0 12) = zw_D min p q A B (zw_c m (I 58) (I 54) (I 53 13)) 0 0 12 by omega] at s1
  rw [Nat.zero_add, if_pos (by omega), List.nil_append] at s2
  have R29 : R 52 29 = nI (zw_D min p q A B (zw_c m (I 58) (I 54) (I 53 13)) 0 0 12) := by rw [r2.2.2.1, s1]
  have R66 : ∀ k, k < p + q → R 66 k = nI ((zw_pE p q A B (zw_c m (I 58) (I 54) (I 53 13)) (p + q) 0 0 12).getD k 0) := fun k hk => by
    have := r2.2.2.2.1 k
    rw [s2, zw_pE_len] at this
    exact this hk
  have R53 : R 53 = I 53 := by rw [r3.1 53 (by omega) (by omega) (by omega) (by omega) (by omega) (by omega) (by omega) (by omega) (by omega) (by omega), zu_ux (by omega), cI 53 (by omega) (by omega) (by omega) (by omega) (by omega) (by omega) (by omega) (by omega) (by omega)]
  have bc : zv_J6_bitCount (zh_W n (I 53) 0) = nI (p + q) := by
    have := zw_bc hn h.1.2.2.2.2.1 (zw_wh h)
    rw [hp, hq, h.2.1.2.2.1] at this
    exact this
  obtain ⟨X4, J2, w1, w2, w3, w4, w5, w6⟩ := zm_wl hN hn pq (I := zz_u R 52 6 0) (J := J1) (F := F2) (by rw [zz_un (by omega), r3.2 1 (by omega) (by omega) (by omega) (by omega) (by omega) (by omega) (by omega) (by omega) (by omega), P52 1 (by omega), x52]; exact h.1.2.1) (by rw [zu_ux (by omega), R53]; exact bc) (L := fun k => (zw_pE p q A B (zw_c m (I 58) (I 54) (I 53 13)) (p + q) 0 0 12).getD k 0) (fun k hk => by rw [zu_ux (by omega)]; exact R66 k hk) (p + q) 0 (N - 1) (zz_u R 52 6 0) J1 (by omega) (by omega) (fun _ _ => rfl) (fun _ _ => rfl) (zz_us _ _ _ _) (fun _ _ => rfl) (fun i hi => by omega)
  rw [show zz_u R 52 6 0 52 29 = R 52 29 from zz_un (by omega), R29] at w1
  have Bq : zf_X12_weave N X3 J1 F = some (nI (zw_D min p q A B (zw_c m (I 58) (I 54) (I 53 13)) 0 0 12), X4, J2, F2) := by
    obtain ⟨M, rfl⟩ := zu_one N hN
    rw [zo_X12_weave]
    exact zu_bd r1 w1
  refine ⟨_, _, _, _, _, _, A1, Bq, zi_told hX (fun a i hk => ?_) ⟨p + q, pq, ?_, w4, fun t ht => ?_⟩ (zF_ok r4 h.2.2.2.2.2.2.2.2)⟩
  · by_cases a52 : a = 52
    · subst a52
      rw [w3 i (fun w => by subst w; cases hk), zz_un (fun w => by rw [w.2] at hk; cases hk), r3.2 i (fun w => by subst w; cases hk) (fun w => by subst w; cases hk) (fun w => by subst w; cases hk) (fun w => by subst w; cases hk) (fun w => by subst w; cases hk) (fun w => by subst w; cases hk) (fun w => by subst w; cases hk) (fun w => by subst w; cases hk) (fun w => by subst w; cases hk), P52 i (fun w => by subst w; cases hk)]
    · rw [w2 a a52, zu_ux a52, r3.1 a (fun w => by subst w; cases hk) a52 (fun w => by subst w; cases hk) (fun w => by subst w; cases hk) (fun w => by subst w; cases hk) (fun w => by subst w; cases hk) (fun w => by subst w; cases hk) (fun w => by subst w; cases hk) (fun w => by subst w; cases hk) (fun w => by subst w; cases hk), zu_ux a52]
      by_cases a2 : a = 2
      · subst a2
        rw [t3 i (fun w => by subst w; cases hk), k2 2 (by omega) (by omega), g1 2 (by omega)]
      · rw [c3 a a2 (fun w => by subst w; cases hk) (fun w => by subst w; cases hk) (fun w => by subst w; cases hk)]
  · rw [w2 2 (by omega), zu_ux (by omega), r3.1 2 (by omega) (by omega) (by omega) (by omega) (by omega) (by omega) (by omega) (by omega) (by omega) (by omega), zu_ux (by omega)]
    exact t4
  · rw [w6 t ht, w5 4 (by omega), t6 t ht]
