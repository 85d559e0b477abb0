/-! BOTH -/
theorem zm_bl {N n K : Nat} (hN : 100000 ≤ N) (hn : n ≤ 12) (hK : K ≤ 12) {I : Nat → Nat → Int32} {J : Nat → Nat → Int64} {F : zz_F} (h1 : I 52 1 = nI n) (hb : zv_J6_bitCount (zh_W n (I 53) 0) = nI K) (h35 : I 52 35 = 1) {L : Nat → Nat} (h73 : ∀ k, k < K → I 73 k = nI (L k)) : ∀ r k u (X : Nat → Nat → Int32) (Y : Nat → Nat → Int64), k + r = K → r + 1 < u → (∀ y, y ≠ 52 → X y = I y) → (∀ i, i ≠ 6 → X 52 i = I 52 i) → X 52 6 = nI k → (∀ y, y ≠ 56 → Y y = J y) → (∀ i, i < k → Y 56 i = (nI (L i)).toInt64) → ∃ X' Y', zl_X12_both N u 54 0 0 (nI k) X Y F = some (1, X', Y', F) ∧ (∀ y, y ≠ 52 → X' y = I y) ∧ (∀ i, i ≠ 6 → X' 52 i = I 52 i) ∧ X' 52 6 = nI K ∧ (∀ y, y ≠ 56 → Y' y = J y) ∧ ∀ i, i < K → Y' 56 i = (nI (L i)).toInt64 := by
  intro r
  induction r with
  | zero =>
    intro k u X Y hk hu hX h52 h6 hY hY4
    obtain ⟨v, rfl⟩ : ∃ v, u = v + 2 := ⟨u - 2, by omega⟩
    obtain rfl : k = K := by omega
    refine ⟨X, Y, ?_, hX, h52, h6, hY, hY4⟩
    rw [zo_X12_both_54]
    unfold zb_X12_both_54
    rw [zm_where hN hn (by rw [h52 1 (by omega)]; exact h1), Option.bind_some]
    dsimp only
    rw [hX 53 (by omega), hb, if_pos (nI_le (Nat.le_refl k) (by omega)), zo_X12_both_90]
    unfold zb_X12_both_90
    rw [h52 35 (by omega), h35, if_neg (by decide)]
  | succ r ih =>
    intro k u X Y hk hu hX h52 h6 hY hY4
    obtain ⟨v, rfl⟩ : ∃ v, u = v + 1 := ⟨u - 1, by omega⟩
    rw [zo_X12_both_54]
    unfold zb_X12_both_54
    rw [zm_where hN hn (by rw [h52 1 (by omega)]; exact h1), Option.bind_some]
    dsimp only
    rw [hX 53 (by omega), hb, if_neg (nI_ge (show k < K by omega) (by omega)), h52 35 (by omega), h35, if_neg (by decide), if_pos (nI_in (show k < 12 by omega) (by omega)), h6, if_pos (nI_in (show k < 20 by omega) (by omega)), nI_clamp (by omega), hX 73 (by omega), h73 k (by omega), nI_1]
    have ew : ∀ v : Int64, zw_X12_tell X Y v = zz_u X 52 6 (nI (k + 1)) := fun v => by
      show zz_u X 52 6 (X 52 6 + 1) = _
      rw [h6, nI_1]
    have ex : ∀ v : Int64, zx_X12_tell X Y v = zz_u Y 56 k v := fun v => by
      show zz_u Y 56 (X 52 6).toNatClampNeg v = _
      rw [h6, nI_clamp (by omega)]
    rw [ew, ex]
    exact ih (k + 1) v _ _ (by omega) (by omega) (fun y hy => by rw [zu_ux hy, hX y hy]) (fun i hi => by rw [zz_un (fun w => hi w.2), h52 i hi]) (zz_us _ _ _ _) (fun y hy => by rw [zu_ux hy, hY y hy]) (fun i hi => by
      by_cases e : i = k
      · rw [e, zz_us]
      · rw [zz_un (fun w => e w.2)]; exact hY4 i (by omega))
theorem zy_both {N n : Nat} (hN : 100000 ≤ N) {I : Nat → Nat → Int32} {J : Nat → Nat → Int64} {F : zz_F} (h : zi n I J F) (x y : Int32) : ∃ v I1 J1 I2 J2 F2, zf_X11_both N x y I J = some (v, I1, J1) ∧ zf_X12_both N x y I1 J1 F = some (v, I2, J2, F2) ∧ zi n I2 J2 F2 := by
  have hn := h.1.1
  have hr0 : ∀ {x : Int32}, (x < 0 ∨ nI 199 < x) → zv_X11_isHour x = 0 := fun {x} w => by
    unfold zv_X11_isHour
    rcases w with w | w
    · rw [if_pos w]
    · by_cases z : x < 0
      · rw [if_pos z]
      · rw [if_neg z]; exact if_pos w
  have hr1 : ∀ {x : Nat}, x ≤ 199 → ¬ zv_X11_isHour (nI x) = 0 := fun {x} hx => by
    unfold zv_X11_isHour
    rw [if_neg (nI_pos (by omega)), if_neg (show ¬ (199 : Int32) < nI x from nI_nlt (a := 199) hx (by omega))]; decide
  have hm1 : ∀ {x : Nat}, x ≤ 199 → ¬ zv_X12_in (nI x) 0 199 = 0 := fun {x} hx => by
    show ¬ zv_X12_in (nI x) 0 (nI 199) = 0
    rw [zu_inY (by omega) hx]; decide
  have r27 : ∀ M, 100000 ≤ M + 1 → zl_X12_both (M + 1) M 27 0 0 0 (zz_u I 52 7 0) J F = some (-1, zz_u I 52 7 0, J, F) := fun M hM => by
    obtain ⟨M', rfl⟩ : ∃ M', M = M' + 1 := ⟨M - 1, by omega⟩
    rw [zo_X12_both_27]; rfl
  rcases zu_bet x 199 (by omega) with qq | ⟨x, hx, rfl⟩
  · obtain ⟨M, rfl⟩ := zu_one N hN
    have a : zf_X11_both (M + 1) x y I J = some (-1, I, J) := by
      rw [zo_X11_both]
      exact zu_gd (hr0 qq) rfl
    have b : zf_X12_both (M + 1) x y I J F = some (-1, zz_u I 52 7 0, J, F) := by
      rw [zo_X12_both]
      exact zu_gd (zu_inN 199 qq) (r27 M hN)
    exact ⟨_, _, _, _, _, _, a, b, zi_q0 h⟩
  rcases zu_bet y 199 (by omega) with qq | ⟨y, hy, rfl⟩
  · obtain ⟨M, rfl⟩ := zu_one N hN
    have a : zf_X11_both (M + 1) (nI x) y I J = some (-1, I, J) := by
      rw [zo_X11_both]
      exact zu_gn (hr1 hx) (zu_gn (fun w => w (hr0 qq)) rfl)
    have b : zf_X12_both (M + 1) (nI x) y I J F = some (-1, zz_u I 52 7 0, J, F) := by
      rw [zo_X12_both]
      exact zu_gn (hm1 hx) (zu_gn (fun w => w (zu_inN 199 qq)) (r27 M hN))
    exact ⟨_, _, _, _, _, _, a, b, zi_q0 h⟩
  obtain ⟨X, m, e0, hX, ru, hL, fx, f41⟩ := zs_ready hN h
  have pq := hL.1
  have x52 : X 52 = I 52 := fx 52 (by omega) (by omega) (by omega) (by omega) (by omega) (by omega)
  have x53 : X 53 = I 53 := fx 53 (by omega) (by omega) (by omega) (by omega) (by omega) (by omega)
  obtain ⟨X1, g1, g2⟩ := zs_by hN hx hy (J := J) hL
  have bc : zv_J6_bitCount (zh_W n (I 53) 0) = nI (zw_p n (I 54) (I 8 2) 0 + zw_p n (I 54) (I 8 2) 1) := by
    have := zw_bc hn h.1.2.2.2.2.1 (zw_wh h)
    rw [h.2.1.2.2.1] at this
    rw [h.2.1.2.2.1]
    exact this
  have gA := fun ah => (zw_g5 (x := x) (y := y) (zw_W hL) hx hy (zw_p n (I 54) (I 8 2) 0 + zw_p n (I 54) (I 8 2) 1) 0 0 12 0 [] 0 0 (zw_a0 ah) (by omega) (by omega) (by omega) (.inl rfl) pq (by omega) (by omega) (by omega)).2
  have ok0 : zw_ok x y (zw_p n (I 54) (I 8 2) 0) (zw_p n (I 54) (I 8 2) 1) (zw_a n (I 54) (I 8 2) 0) (zw_a n (I 54) (I 8 2) 1) (zw_c m (I 58) (I 54) (I 53 13)) 0 0 12 0 0 0 ↔ 2000000 ≤ zw_Lt x y (zw_p n (I 54) (I 8 2) 0) (zw_p n (I 54) (I 8 2) 1) (zw_a n (I 54) (I 8 2) 0) (zw_a n (I 54) (I 8 2) 1) (zw_c m (I 58) (I 54) (I 53 13)) 0 0 12 := by
    unfold zw_ok
    rw [Nat.zero_add]
    exact ⟨fun w => w.2.2, fun w => ⟨fun _ => by omega, fun _ => by omega, w⟩⟩
  rw [ok0] at gA
  clear ok0
  generalize hWW : zw_c m (I 58) (I 54) (I 53 13) = W at *
  generalize hp : zw_p n (I 54) (I 8 2) 0 = p at *
  generalize hq : zw_p n (I 54) (I 8 2) 1 = q at *
  generalize hA : zw_a n (I 54) (I 8 2) 0 = A at *
  generalize hB : zw_a n (I 54) (I 8 2) 1 = B at *
  -- the class tells K turns
  have cls : ∀ K ans, K ≤ 12 → ∀ L : Nat → Nat, (ans = 0 ∨ ans = 1) → zf_X4_findTurnsBy N (nI x) (nI y) X J = some (nI ans, X1, J) → X1 41 5 = nI K → (∀ k, k < K → X1 45 k = nI (L k)) → ∃ C J1, zf_X11_both N (nI x) (nI y) I J = some (nI ans, C, J1) ∧ (∀ y, y ≠ 2 → y ≠ 41 → y ≠ 44 → y ≠ 45 → C y = X y) ∧ (∀ i, i ≠ 3 → C 2 i = X 2 i) ∧ C 2 3 = nI K ∧ ∀ i, i < K → J1 4 i = (nI (L i)).toInt64 := fun K ans hK L ha hf h5 h45 => by
    obtain ⟨C, J1, t1, t2, t3, t4, t5, t6⟩ := zw_tell hN (J := J) hK h5 h45
    refine ⟨C, J1, ?_, fun y a b c d => by rw [t2 y a, g1 y b c d], fun i hi => by rw [t3 i hi, g1 2 (by omega) (by omega) (by omega)], t4, t6⟩
    obtain ⟨M, rfl⟩ := zu_one N hN
    rw [zo_X11_both]
    refine zu_gn (hr1 hx) (zu_gd (hr1 hy) (zu_bd e0 (zu_bd hf (zu_bd t1 ?_))))
    dsimp only
    rcases ha with rfl | rfl
    · rw [if_pos (show nI 0 = 0 from rfl)]; rfl
    · rw [if_neg (show ¬ nI 1 = 0 by decide)]; rfl
  -- the reference lays its weaves
  have ref : ∀ (C : Nat → Nat → Int32) (J1 : Nat → Nat → Int64), (∀ y, y ≠ 2 → y ≠ 41 → y ≠ 44 → y ≠ 45 → C y = X y) → (∀ i, i ≠ 3 → C 2 i = X 2 i) → ∃ R F2, zf_X12_both N (nI x) (nI y) C J1 F = zl_X12_both N (N - 1) 54 0 0 (nI 0) (zz_u R 52 6 0) J1 F2 ∧ R 2 = C 2 ∧ R 53 = I 53 ∧ R 52 1 = nI n ∧ (R 52 35 = if ((zw_go p q A B W (nI x) (nI y) (p + q) 0 0 12 0 [] 0 0 (zw_a0 (zz_u (zz_u (zz_u C 52 7 0) 72 0 (nI x)) 72 1 (nI y) 71))).2.2.2.2.1).isSome = true then 1 else 0) ∧ (∀ l, (zw_go p q A B W (nI x) (nI y) (p + q) 0 0 12 0 [] 0 0 (zw_a0 (zz_u (zz_u (zz_u C 52 7 0) 72 0 (nI x)) 72 1 (nI y) 71))).2.2.2.2.1 = some l → ∀ i, i < l.length → R 73 i = nI (l.getD i 0)) ∧ ∀ Z J0, (∀ y, y ≠ 52 → Z y = R y) → (∀ i, i ≠ 6 → Z 52 i = R 52 i) → zi_tol Z J0 → zi n Z J0 F2 := fun C J1 cC cC2 => by
    obtain ⟨R, F2, r1, r2, r3, r4⟩ := zm_laid hN h hX ru fx cC cC2 (P := zz_u (zz_u (zz_u C 52 7 0) 72 0 (nI x)) 72 1 (nI y)) (fun y a b => by rw [zu_ux b, zu_ux b, zu_ux a]) (fun i a b => by rw [zu_ux (by omega), zu_ux (by omega), zz_un (fun w => b w.2)]) J1
    rw [hp, hq, hA, hB, hWW, show zz_u (zz_u (zz_u C 52 7 0) 72 0 (nI x)) 72 1 (nI y) 72 0 = nI x by rw [zz_un (by omega), zz_us], show zz_u (zz_u (zz_u C 52 7 0) 72 0 (nI x)) 72 1 (nI y) 72 1 = nI y from zz_us _ _ _ _] at r2
    refine ⟨R, F2, ?_, by rw [zw_fr2 r3, zu_ux (by omega), zu_ux (by omega), zu_ux (by omega)], ?_, ?_, r2.2.2.2.2.1, r2.2.2.2.2.2.1, r4⟩
    · obtain ⟨M, rfl⟩ := zu_one N hN
      rw [zo_X12_both]
      exact zu_gn (hm1 hx) (zu_gd (hm1 hy) (zu_bd r1 rfl))
    · rw [r3.1 53 (by omega) (by omega) (by omega) (by omega) (by omega) (by omega) (by omega) (by omega) (by omega) (by omega), zu_ux (by omega), zu_ux (by omega), zu_ux (by omega), cC 53 (by omega) (by omega) (by omega) (by omega), x53]
    · rw [zw_R52 r3 (by omega) (by omega) (by omega) (by omega) (by omega) (by omega) (by omega) (by omega) (by omega), zu_ux (by omega), zu_ux (by omega), zz_un (by omega), cC 52 (by omega) (by omega) (by omega) (by omega), x52]; exact h.1.2.1
  rcases g2 with ⟨c, f1, f5, f45⟩ | ⟨c, f1, f5⟩
  · obtain ⟨C, J1, A1, cC, cC2, C3, j4⟩ := cls (p + q) 1 pq (fun k => (zw_pL x y p q A B W (p + q) 0 0 12 0).getD k 0) (.inr rfl) f1 f5 f45
    obtain ⟨R, F2, s1, s2, s3, s4, s5, s6, s7⟩ := ref C J1 cC cC2
    have fd := (gA (zz_u (zz_u (zz_u C 52 7 0) 72 0 (nI x)) 72 1 (nI y) 71)).1 rfl c
    rw [List.nil_append] at fd
    rw [fd] at s5
    have s6 := s6 _ fd
    rw [zw_pL_len] at s6
    obtain ⟨X4, J2, w1, w2, w3, w4, w5, w6⟩ := zm_bl hN hn pq (I := zz_u R 52 6 0) (J := J1) (F := F2) (by rw [zz_un (by omega)]; exact s4) (by rw [zu_ux (by omega), s3]; exact bc) (by rw [zz_un (by omega), s5]; rfl) (L := fun k => (zw_pL x y p q A B W (p + q) 0 0 12 0).getD k 0) (fun k hk => by rw [zu_ux (by omega)]; exact s6 k hk) (p + q) 0 (N - 1) (zz_u R 52 6 0) J1 (by omega) (by omega) (fun _ _ => rfl) (fun _ _ => rfl) (zz_us _ _ _ _) (fun _ _ => rfl) (fun i hi => by omega)
    refine ⟨_, _, _, _, _, _, A1, s1.trans w1, s7 _ _ (fun y a => by rw [w2 y a, zu_ux a]) (fun i a => by rw [w3 i a, zz_un (fun w => a w.2)]) ⟨p + q, pq, by rw [w2 2 (by omega), zu_ux (by omega), s2]; exact C3, w4, fun t ht => by rw [w6 t ht, w5 4 (by omega), j4 t ht]⟩⟩
  · obtain ⟨C, J1, A1, cC, cC2, C3, j4⟩ := cls 0 0 (by omega) (fun _ => 0) (.inl rfl) f1 f5 (fun k hk => by omega)
    obtain ⟨R, F2, s1, s2, s3, s4, s5, s6, s7⟩ := ref C J1 cC cC2
    have fd := (gA (zz_u (zz_u (zz_u C 52 7 0) 72 0 (nI x)) 72 1 (nI y) 71)).2 rfl c
    rw [fd] at s5
    have Bq : zl_X12_both N (N - 1) 54 0 0 (nI 0) (zz_u R 52 6 0) J1 F2 = some (nI 0, zz_u R 52 6 0, J1, F2) := by
      obtain ⟨v, hv⟩ : ∃ v, N - 1 = v + 2 := ⟨N - 3, by omega⟩
      have z35 : zz_u R 52 6 0 52 35 = 0 := by rw [zz_un (by omega), s5]; rfl
      rw [hv, zo_X12_both_54]
      unfold zb_X12_both_54
      rw [zm_where hN hn (by rw [zz_un (by omega)]; exact s4), Option.bind_some]
      dsimp only
      have e90 : zl_X12_both N (v + 1) 90 0 0 0 (zz_u R 52 6 0) J1 F2 = some (nI 0, zz_u R 52 6 0, J1, F2) := by
        rw [zo_X12_both_90]
        unfold zb_X12_both_90
        rw [z35, if_pos rfl]; rfl
      rw [if_pos z35, e90]
      exact ite_self _
    exact ⟨_, _, _, _, _, _, A1, s1.trans Bq, s7 _ _ (fun y a => zu_ux a) (fun i a => zz_un (fun w => a w.2)) ⟨0, by omega, by rw [zu_ux (by omega), s2]; exact C3, zz_us _ _ _ _, fun t ht => by omega⟩⟩
