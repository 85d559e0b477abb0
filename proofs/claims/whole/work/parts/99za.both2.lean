/-! THE CLASS'S LATEST MINUTES -/
def zw_Yt (x y p q : Nat) (A B : Nat → Nat) (W : Nat → Nat → Nat) (X : Nat → Nat → Int32) (i j : Nat) : Prop := ∀ l, l ≤ 1 → X 44 ((i * 13 + j) * 2 + l) = zn (zw_Lt x y p q A B W i j (zw_ca A B i j l))
section
variable {x y p q : Nat} {A B : Nat → Nat} {W : Nat → Nat → Nat}
theorem zw_lb0 {X : Nat → Nat → Int32} (h : zw_L p q A B W X) (hx : x ≤ 199) (h8 : X 41 8 = nI x) {i j l : Nat} (hi : i ≤ p) (hj : j ≤ q) (hl : l ≤ 1) (h0 : i < p → zw_Yt x y p q A B W X (i + 1) j) : zv_X4_latestBy X (nI i) (nI j) (nI l) 0 = zn (zw_l0 x y p q A B W i j (zw_ca A B i j l)) := by
  have pq := h.1
  unfold zv_X4_latestBy
  rw [if_neg (show ¬ ¬ (0 : Int32) = 0 from fun w => w rfl), h.2.1, pk_sub hi, h8]
  unfold zw_l0
  by_cases c : i < p
  · have i0 : zw_in p q A B (A i) := .inl ⟨i, c, rfl⟩
    have w0 := zw_W h _ _ (zw_ca_ok (l := l) hi hj) i0
    have b := zw_Lt_b (x := x) (y := y) (zw_W h) _ (i + 1) j (A i) rfl (by omega) (.inr i0)
    have e : zv_X4_valueBehind X (nI i) (nI j) 0 = zn (zw_Lt x y p q A B W (i + 1) j (A i)) := (zw_beh0 (by omega) (by omega)).trans (h0 c 0 (by omega))
    rw [if_pos (show (0 : Int32) < nI (p - i) from nI_lt (a := 0) (by omega) (by omega)), if_pos c, e, zw_step0 h c hj hl, zn_N x]
    by_cases d : i + 1 = p
    · rw [if_neg (show ¬ ¬ nI (p - i) = 1 from fun w => w (by rw [show p - i = 1 by omega]; rfl)), if_pos d, zn_min (by omega) (by omega), zn_sub (by omega)]
    · rw [if_pos (show ¬ nI (p - i) = 1 from fun w => by have := (nI_eq (b := 1) (by omega) (by omega)).mp w; omega), if_neg d, zn_sub (by omega)]
  · rw [if_neg (show ¬ (0 : Int32) < nI (p - i) by rw [show p - i = 0 by omega]; decide), if_neg c]
    decide
theorem zw_lb1 {X : Nat → Nat → Int32} (h : zw_L p q A B W X) (hy : y ≤ 199) (h9 : X 41 9 = nI y) {i j l : Nat} (hi : i ≤ p) (hj : j ≤ q) (hl : l ≤ 1) (h0 : j < q → zw_Yt x y p q A B W X i (j + 1)) : zv_X4_latestBy X (nI i) (nI j) (nI l) 1 = zn (zw_l1 x y p q A B W i j (zw_ca A B i j l)) := by
  have pq := h.1
  unfold zv_X4_latestBy
  rw [if_pos (show ¬ (1 : Int32) = 0 by decide), h.2.2.1, pk_sub hj, h9]
  unfold zw_l1
  by_cases c : j < q
  · have i0 : zw_in p q A B (B j) := .inr ⟨j, c, rfl⟩
    have w0 := zw_W h _ _ (zw_ca_ok (l := l) hi hj) i0
    have b := zw_Lt_b (x := x) (y := y) (zw_W h) _ i (j + 1) (B j) rfl (by omega) (.inr i0)
    have e : zv_X4_valueBehind X (nI i) (nI j) 1 = zn (zw_Lt x y p q A B W i (j + 1) (B j)) := (zw_beh1 (by omega) (by omega)).trans (h0 c 1 (by omega))
    rw [if_pos (show (0 : Int32) < nI (q - j) from nI_lt (a := 0) (by omega) (by omega)), if_pos c, e, zw_step1 h hi c hl, zn_N y]
    by_cases d : j + 1 = q
    · rw [if_neg (show ¬ ¬ nI (q - j) = 1 from fun w => w (by rw [show q - j = 1 by omega]; rfl)), if_pos d, zn_min (by omega) (by omega), zn_sub (by omega)]
    · rw [if_pos (show ¬ nI (q - j) = 1 from fun w => by have := (nI_eq (b := 1) (by omega) (by omega)).mp w; omega), if_neg d, zn_sub (by omega)]
  · rw [if_neg (show ¬ (0 : Int32) < nI (q - j) by rw [show q - j = 0 by omega]; decide), if_neg c]
    decide
theorem zw_l0b (hW : ∀ x y, (x = 12 ∨ zw_in p q A B x) → zw_in p q A B y → W x y ≤ 108) (pq : p + q ≤ 12) {i j c : Nat} : zw_l0 x y p q A B W i j c ≤ 3000000 := by
  unfold zw_l0
  by_cases h : i < p
  · have b := zw_Lt_b (x := x) (y := y) hW _ (i + 1) j (A i) rfl (by omega) (.inr (.inl ⟨i, h, rfl⟩))
    rw [if_pos h]
    split <;> omega
  · rw [if_neg h]; omega
theorem zw_l1b (hW : ∀ x y, (x = 12 ∨ zw_in p q A B x) → zw_in p q A B y → W x y ≤ 108) (pq : p + q ≤ 12) {i j c : Nat} : zw_l1 x y p q A B W i j c ≤ 3000000 := by
  unfold zw_l1
  by_cases h : j < q
  · have b := zw_Lt_b (x := x) (y := y) hW _ i (j + 1) (B j) rfl (by omega) (.inr (.inr ⟨j, h, rfl⟩))
    rw [if_pos h]
    split <;> omega
  · rw [if_neg h]; omega
theorem zw_lat {X : Nat → Nat → Int32} (h : zw_L p q A B W X) (hx : x ≤ 199) (hy : y ≤ 199) (h8 : X 41 8 = nI x) (h9 : X 41 9 = nI y) {i j l : Nat} (hi : i ≤ p) (hj : j ≤ q) (hl : l ≤ 1) (h0 : i < p → zw_Yt x y p q A B W X (i + 1) j) (h1 : j < q → zw_Yt x y p q A B W X i (j + 1)) : zv_X4_latestAt X (nI i) (nI j) (nI l) = zn (zw_Lt x y p q A B W i j (zw_ca A B i j l)) := by
  have pq := h.1
  have b0 := zw_l0b (x := x) (y := y) (zw_W h) pq (i := i) (j := j) (c := zw_ca A B i j l)
  have b1 := zw_l1b (x := x) (y := y) (zw_W h) pq (i := i) (j := j) (c := zw_ca A B i j l)
  unfold zv_X4_latestAt
  rw [zw_lb0 h hx h8 hi hj hl h0, zw_lb1 h hy h9 hi hj hl h1, zn_max (by omega) (by omega), h.2.1, h.2.2.1]
  by_cases c : i < p
  · rw [if_pos (nI_lt c (by omega)), zw_Lt_s (.inl c)]
  · rw [if_neg (nI_nlt (by omega) (by omega))]
    by_cases d : j < q
    · rw [if_pos (nI_lt d (by omega)), zw_Lt_s (.inr d)]
    · rw [if_neg (nI_nlt (by omega) (by omega)), zw_Lt_e (by omega) (by omega)]
      decide
theorem zw_fl_i {N : Nat} (hx : x ≤ 199) (hy : y ≤ 199) {I : Nat → Nat → Int32} {J : Nat → Nat → Int64} (h : zw_L p q A B W I) (h8 : I 41 8 = nI x) (h9 : I 41 9 = nI y) {i : Nat} (hi : i ≤ p) : ∀ k u (X : Nat → Nat → Int32), k ≤ q + 1 → k < u → (∀ x, x ≠ 44 → X x = I x) → (∀ i' j', i' ≤ p → j' ≤ q → (i < i' ∨ i' = i ∧ k ≤ j') → zw_Yt x y p q A B W X i' j') → ∃ X', (∀ x, x ≠ 44 → X' x = I x) ∧ (∀ i' j', i' ≤ p → j' ≤ q → i ≤ i' → zw_Yt x y p q A B W X' i' j') ∧ zl_X4_findTurnsBy N u 30 0 0 (nI i) (nI k - 1) X J = zl_X4_findTurnsBy N (u - k - 1) 20 0 0 (nI i + (-1)) 0 X' J := by
  have pq := h.1
  intro k
  induction k with
  | zero =>
    intro u X hk hu hX hT
    obtain ⟨v, rfl⟩ : ∃ v, u = v + 1 := ⟨u - 1, by omega⟩
    refine ⟨X, hX, fun i' j' h1 h2 h3 => hT i' j' h1 h2 (by omega), ?_⟩
    rw [zo_X4_findTurnsBy_30]
    unfold zb_X4_findTurnsBy_30
    rw [if_pos (show nI 0 - 1 < 0 by decide)]
    rfl
  | succ k ih =>
    intro u X hk hu hX hT
    obtain ⟨v, rfl⟩ : ∃ v, u = v + 1 := ⟨u - 1, by omega⟩
    have hL : zw_L p q A B W X := zw_L_c h (by rw [hX 41 (by omega)]) (by rw [hX 41 (by omega)]) (hX 42 (by omega)) (hX 43 (by omega))
    rw [zo_X4_findTurnsBy_30]
    unfold zb_X4_findTurnsBy_30
    rw [zw_m1, nI_pred, if_neg (nI_pos (by omega)), Option.bind_some]
    have r0 : zv_X4_latestAt X (nI i) (nI k) 0 = zn (zw_Lt x y p q A B W i k (zw_ca A B i k 0)) := zw_lat hL hx hy (by rw [hX 41 (by omega)]; exact h8) (by rw [hX 41 (by omega)]; exact h9) hi (by omega) (l := 0) (by omega) (fun q => hT (i + 1) k (by omega) (by omega) (by omega)) (fun q => hT i (k + 1) hi (by omega) (by omega))
    have p0 : ∀ Y v, zw_X4_put Y (nI i) (nI k) 0 v = zz_u Y 44 ((i * 13 + k) * 2 + 0) v := fun Y v => zw_put (l := 0) (by omega) (by omega) (by omega) v
    have p1 : ∀ Y v, zw_X4_put Y (nI i) (nI k) 1 v = zz_u Y 44 ((i * 13 + k) * 2 + 1) v := fun Y v => zw_put (l := 1) (by omega) (by omega) (by omega) v
    rw [r0, p0]
    generalize hX1 : zz_u X 44 ((i * 13 + k) * 2 + 0) (zn (zw_Lt x y p q A B W i k (zw_ca A B i k 0))) = X1
    have X1T : ∀ i' j', i' ≤ p → j' ≤ q → (i < i' ∨ i' = i ∧ k + 1 ≤ j') → zw_Yt x y p q A B W X1 i' j' := fun i' j' h1 h2 h3 l hl => by
      rw [← hX1, zz_un (by omega)]
      exact hT i' j' h1 h2 h3 l hl
    have X1x : ∀ x, x ≠ 44 → X1 x = I x := fun x hx => by rw [← hX1, zu_ux hx, hX x hx]
    have hL1 : zw_L p q A B W X1 := zw_L_c h (by rw [X1x 41 (by omega)]) (by rw [X1x 41 (by omega)]) (X1x 42 (by omega)) (X1x 43 (by omega))
    have r1 : zv_X4_latestAt X1 (nI i) (nI k) 1 = zn (zw_Lt x y p q A B W i k (zw_ca A B i k 1)) := zw_lat hL1 hx hy (by rw [X1x 41 (by omega)]; exact h8) (by rw [X1x 41 (by omega)]; exact h9) hi (by omega) (l := 1) (by omega) (fun q => X1T (i + 1) k (by omega) (by omega) (by omega)) (fun q => X1T i (k + 1) hi (by omega) (by omega))
    rw [r1, p1]
    obtain ⟨X', g1, g2, g3⟩ := ih v (zz_u X1 44 ((i * 13 + k) * 2 + 1) (zn (zw_Lt x y p q A B W i k (zw_ca A B i k 1)))) (by omega) (by omega) (fun x hx => by rw [zu_ux hx, X1x x hx]) (fun i' j' h1 h2 h3 l hl => by
      by_cases e : i' = i ∧ j' = k
      · obtain ⟨rfl, rfl⟩ := e
        rcases (by omega : l = 0 ∨ l = 1) with rfl | rfl
        · rw [zz_un (by omega), ← hX1, zz_us]
        · rw [zz_us]
      · rw [zz_un (by omega)]
        exact X1T i' j' h1 h2 (by omega) l hl)
    exact ⟨X', g1, g2, by rw [g3, show v + 1 - (k + 1) - 1 = v - k - 1 by omega]⟩
theorem zw_fl_o {N : Nat} (hx : x ≤ 199) (hy : y ≤ 199) {I : Nat → Nat → Int32} {J : Nat → Nat → Int64} (h : zw_L p q A B W I) (h8 : I 41 8 = nI x) (h9 : I 41 9 = nI y) : ∀ k u (X : Nat → Nat → Int32), k ≤ p + 1 → 20 * k + 10 < u → (∀ x, x ≠ 44 → X x = I x) → (∀ i' j', i' ≤ p → j' ≤ q → k ≤ i' → zw_Yt x y p q A B W X i' j') → ∃ X' u', (∀ x, x ≠ 44 → X' x = I x) ∧ (∀ i' j', i' ≤ p → j' ≤ q → zw_Yt x y p q A B W X' i' j') ∧ zl_X4_findTurnsBy N u 20 0 0 (nI k - 1) 0 X J = zl_X4_findTurnsBy N (u' + 1) 20 0 0 (nI 0 - 1) 0 X' J := by
  have pq := h.1
  intro k
  induction k with
  | zero =>
    intro u X hk hu hX hT
    obtain ⟨v, rfl⟩ : ∃ v, u = v + 1 := ⟨u - 1, by omega⟩
    exact ⟨X, v, hX, fun i' j' h1 h2 => hT i' j' h1 h2 (by omega), rfl⟩
  | succ k ih =>
    intro u X hk hu hX hT
    obtain ⟨v, rfl⟩ : ∃ v, u = v + 1 := ⟨u - 1, by omega⟩
    rw [zo_X4_findTurnsBy_20]
    unfold zb_X4_findTurnsBy_20
    rw [nI_pred, if_neg (nI_pos (by omega)), hX 41 (by omega), h.2.2.1, show nI q = nI (q + 1) - 1 from (nI_pred q).symm]
    obtain ⟨X1, g1, g2, g3⟩ := zw_fl_i (N := N) hx hy h (J := J) h8 h9 (show k ≤ p by omega) (q + 1) v X (by omega) (by omega) hX (fun i' j' h1 h2 h3 => hT i' j' h1 h2 (by omega))
    rw [g3, show nI k + -1 = nI k - 1 from (Int32.sub_eq_add_neg _ _).symm]
    exact ih (v - (q + 1) - 1) X1 (by omega) (by omega) g1 (fun i' j' h1 h2 h3 => g2 i' j' h1 h2 h3)
/-- the class follows the first way in time -/
theorem zw_fo_l {N : Nat} (hx : x ≤ 199) (hy : y ≤ 199) {I : Nat → Nat → Int32} {J : Nat → Nat → Int64} (h : zw_L p q A B W I) (h8 : I 41 8 = nI x) (hT : ∀ i' j', i' ≤ p → j' ≤ q → zw_Yt x y p q A B W I i' j') : ∀ r i j l T u (X : Nat → Nat → Int32), p - i + (q - j) = r → i ≤ p → j ≤ q → l ≤ 1 → T ≤ 108 * (i + j) → T + 2000000 ≤ zw_Lt x y p q A B W i j (zw_ca A B i j l) → r + 2 < u → (∀ x, x ≠ 41 → x ≠ 45 → X x = I x) → (∀ k, k ≠ 5 → X 41 k = I 41 k) → X 41 5 = nI (i + j) → ∃ X', zl_X4_followLatest N u 23 (nI i) (nI j) (nI l) (nI T) (nI (p + q)) (nI (i + j)) X J = some (0, X', J) ∧ (∀ x, x ≠ 41 → x ≠ 45 → X' x = I x) ∧ (∀ k, k ≠ 5 → X' 41 k = I 41 k) ∧ X' 41 5 = nI (p + q) ∧ (∀ k, k < i + j → X' 45 k = X 45 k) ∧ ∀ k, k < r → X' 45 (i + j + k) = nI ((zw_pL x y p q A B W r i j (zw_ca A B i j l) T).getD k 0) := by
  have pq := h.1
  intro r
  induction r with
  | zero =>
    intro i j l T u X hr hi hj hl _ _ hu hX h41 h5
    obtain ⟨v, rfl⟩ : ∃ v, u = v + 2 := ⟨u - 2, by omega⟩
    refine ⟨X, ?_, hX, h41, by rw [h5, show i + j = p + q by omega], fun _ _ => rfl, fun k hk => by omega⟩
    rw [zo_X4_followLatest_23]
    unfold zb_X4_followLatest_23
    rw [if_pos (nI_le (by omega) (by omega)), zo_X4_followLatest_138]
    rfl
  | succ r ih =>
    intro i j l T u X hr hi hj hl hTb hin hu hX h41 h5
    obtain ⟨v, rfl⟩ : ∃ v, u = v + 2 := ⟨u - 2, by omega⟩
    have hL : zw_L p q A B W X := zw_L_c h (h41 6 (by omega)) (h41 7 (by omega)) (hX 42 (by omega) (by omega)) (hX 43 (by omega) (by omega))
    have hTX : ∀ i' j', i' ≤ p → j' ≤ q → zw_Yt x y p q A B W X i' j' := fun i' j' h1 h2 l hl => by rw [hX 44 (by omega) (by omega)]; exact hT i' j' h1 h2 l hl
    have z1 : ((1 : Int32) = 0) = False := eq_false (by decide)
    have z0 : ((0 : Int32) = 0) = True := eq_true rfl
    have gk : (¬ (nI (i + j) < 0 ∨ 12 ≤ i + j)) = True := eq_true (fun w => w.elim (nI_pos (by omega)) (fun w => by omega))
    have ok := zw_ca_ok (p := p) (q := q) (A := A) (B := B) (l := l) hi hj
    have b0 := zw_l0b (x := x) (y := y) (zw_W h) pq (i := i) (j := j) (c := zw_ca A B i j l)
    have fin : ∀ pl T', (pl = 0 ∧ i < p ∧ T' ≤ 108 * (i + 1 + j) ∧ T' + 2000000 ≤ zw_Lt x y p q A B W (i + 1) j (A i)) ∨ (pl = 1 ∧ j < q ∧ T' ≤ 108 * (i + (j + 1)) ∧ T' + 2000000 ≤ zw_Lt x y p q A B W i (j + 1) (B j)) → ∀ (rest : List Nat), rest = (if pl = 0 then zw_pL x y p q A B W r (i + 1) j (A i) T' else zw_pL x y p q A B W r i (j + 1) (B j) T') → ∀ w, r + 2 < w → ∃ X', zl_X4_followLatest N w 23 (nI (if pl = 0 then i + 1 else i)) (nI (if pl = 0 then j else j + 1)) (nI pl) (nI T') (nI (p + q)) (nI (i + j + 1)) (zz_u (zz_u X 45 (i + j) (nI pl)) 41 5 (nI (i + j + 1))) J = some (0, X', J) ∧ (∀ x, x ≠ 41 → x ≠ 45 → X' x = I x) ∧ (∀ k, k ≠ 5 → X' 41 k = I 41 k) ∧ X' 41 5 = nI (p + q) ∧ (∀ k, k < i + j → X' 45 k = X 45 k) ∧ ∀ k, k < r + 1 → X' 45 (i + j + k) = nI ((pl :: rest).getD k 0) := fun pl T' hpl rest hR w hw => by
      have X2x : ∀ x, x ≠ 41 → x ≠ 45 → zz_u (zz_u X 45 (i + j) (nI pl)) 41 5 (nI (i + j + 1)) x = I x := fun x a b => by rw [zu_ux a, zu_ux b, hX x a b]
      have X241 : ∀ k, k ≠ 5 → zz_u (zz_u X 45 (i + j) (nI pl)) 41 5 (nI (i + j + 1)) 41 k = I 41 k := fun k hk => by rw [zz_un (fun w => hk w.2), zu_ux (by omega), h41 k hk]
      have cmb : ∀ X' : Nat → Nat → Int32, (∀ k, k < i + j + 1 → X' 45 k = zz_u (zz_u X 45 (i + j) (nI pl)) 41 5 (nI (i + j + 1)) 45 k) → (∀ k, k < r → X' 45 (i + j + 1 + k) = nI (rest.getD k 0)) → (∀ k, k < i + j → X' 45 k = X 45 k) ∧ ∀ k, k < r + 1 → X' 45 (i + j + k) = nI ((pl :: rest).getD k 0) := fun X' c1 c2 => by
        refine ⟨fun k hk => by rw [c1 k (by omega), zu_ux (by omega), zz_un (by omega)], fun k hk => ?_⟩
        cases k with
        | zero =>
          rw [Nat.add_zero, c1 (i + j) (by omega), zu_ux (by omega), zz_us]; rfl
        | succ k =>
          rw [show i + j + (k + 1) = i + j + 1 + k by omega, c2 k (by omega)]; rfl
      rcases hpl with ⟨rfl, hp, hT1, hT2⟩ | ⟨rfl, hq, hT1, hT2⟩
      · rw [if_pos rfl] at hR
        obtain ⟨X', g1, g2, g3, g4, g5, g6⟩ := ih (i + 1) j 0 T' w _ (by omega) (by omega) hj (by omega) hT1 hT2 hw X2x X241 (by rw [zz_us, show i + 1 + j = i + j + 1 by omega])
        rw [show i + 1 + j = i + j + 1 by omega] at g1 g5 g6
        obtain ⟨c1, c2⟩ := cmb X' g5 (by rw [hR]; exact g6)
        exact ⟨X', g1, g2, g3, g4, c1, c2⟩
      · rw [if_neg (by omega)] at hR
        obtain ⟨X', g1, g2, g3, g4, g5, g6⟩ := ih i (j + 1) 1 T' w _ (by omega) hi (by omega) (by omega) hT1 hT2 hw X2x X241 (by rw [zz_us]; rfl)
        rw [show i + (j + 1) = i + j + 1 by omega] at g1 g5 g6
        obtain ⟨c1, c2⟩ := cmb X' g5 (by rw [hR]; exact g6)
        exact ⟨X', g1, g2, g3, g4, c1, c2⟩
    rw [zo_X4_followLatest_23]
    unfold zb_X4_followLatest_23
    rw [if_neg (nI_ge (show i + j < p + q by omega) (by omega)), if_neg (nI_ge (show i + j < 12 by omega) (by omega)), zw_lb0 hL hx (by rw [h41 8 (by omega)]; exact h8) hi hj hl (fun c => hTX (i + 1) j (by omega) hj), zw_pL_s]
    by_cases d : T + 2000000 ≤ zw_l0 x y p q A B W i j (zw_ca A B i j l)
    · have c : i < p := Nat.lt_of_not_le (fun w => by
        rw [show zw_l0 x y p q A B W i j (zw_ca A B i j l) = 1000000 from if_neg (by omega)] at d
        omega)
      have w0 := zw_W h _ _ ok (.inl ⟨i, c, rfl⟩ : zw_in p q A B (A i))
      rw [if_neg (show ¬ zn _ < nI T from fun w => by rw [zn_N T, zn_lt (by omega) (by omega)] at w; omega), if_pos d, zw_step0 hL c hj hl]
      simp only [z1, if_false, if_true, gk, Int32.add_zero, nI_1, nI_add, nI_clamp (show i + j < 2 ^ 31 by omega)]
      exact fin 0 (T + W (zw_ca A B i j l) (A i)) (.inl ⟨rfl, c, by omega, ((zw_l0_t c).mp d).2⟩) _ rfl (v + 1) (by omega)
    · have d1 : T + 2000000 ≤ zw_l1 x y p q A B W i j (zw_ca A B i j l) := by
        rw [zw_Lt_s (by omega)] at hin
        omega
      have c : j < q := Nat.lt_of_not_le (fun w => by
        rw [show zw_l1 x y p q A B W i j (zw_ca A B i j l) = 1000000 from if_neg (by omega)] at d1
        omega)
      have w0 := zw_W h _ _ ok (.inr ⟨j, c, rfl⟩ : zw_in p q A B (B j))
      rw [if_pos (show zn _ < nI T by rw [zn_N T, zn_lt (by omega) (by omega)]; omega), if_neg d, zw_step1 hL hi c hl]
      simp only [z0, if_false, if_true, gk, Int32.add_zero, nI_1, nI_add, nI_clamp (show i + j < 2 ^ 31 by omega)]
      exact fin 1 (T + W (zw_ca A B i j l) (B j)) (.inr ⟨rfl, c, by omega, ((zw_l1_t c).mp d1).2⟩) _ rfl (v + 1) (by omega)
theorem zs_by {N : Nat} (hN : 100000 ≤ N) (hx : x ≤ 199) (hy : y ≤ 199) {I : Nat → Nat → Int32} {J : Nat → Nat → Int64} (h : zw_L p q A B W I) : ∃ X', (∀ y, y ≠ 41 → y ≠ 44 → y ≠ 45 → X' y = I y) ∧ ((2000000 ≤ zw_Lt x y p q A B W 0 0 12 ∧ zf_X4_findTurnsBy N (nI x) (nI y) I J = some (1, X', J) ∧ X' 41 5 = nI (p + q) ∧ ∀ k, k < p + q → X' 45 k = nI ((zw_pL x y p q A B W (p + q) 0 0 12 0).getD k 0)) ∨ (¬ 2000000 ≤ zw_Lt x y p q A B W 0 0 12 ∧ zf_X4_findTurnsBy N (nI x) (nI y) I J = some (0, X', J) ∧ X' 41 5 = nI 0)) := by
  have pq := h.1
  obtain ⟨S, hS⟩ : ∃ S, S = zz_u (zz_u (zz_u I 41 8 (nI x)) 41 9 (nI y)) 41 5 0 := ⟨_, rfl⟩
  have Sx : ∀ z, z ≠ 41 → S z = I z := fun z hz => by rw [hS, zu_ux hz, zu_ux hz, zu_ux hz]
  have S41 : ∀ k, k ≠ 5 → k ≠ 8 → k ≠ 9 → S 41 k = I 41 k := fun k a b c => by rw [hS, zz_un (fun w => a w.2), zz_un (fun w => c w.2), zz_un (fun w => b w.2)]
  have S8 : S 41 8 = nI x := by rw [hS, zz_un (by omega), zz_un (by omega), zz_us]
  have S9 : S 41 9 = nI y := by rw [hS, zz_un (by omega), zz_us]
  have S5 : S 41 5 = nI 0 := by rw [hS]; exact zz_us _ _ _ _
  have hL : zw_L p q A B W S := zw_L_c h (S41 6 (by omega) (by omega) (by omega)) (S41 7 (by omega) (by omega) (by omega)) (Sx 42 (by omega)) (Sx 43 (by omega))
  obtain ⟨X, u', g1, g2, g3⟩ := zw_fl_o (N := N) (J := J) hx hy hL S8 S9 (p + 1) (N - 1) S (by omega) (by omega) (fun _ _ => rfl) (fun i' j' h1 h2 h3 => by omega)
  have b := zw_Lt_b (x := x) (y := y) (zw_W h) _ 0 0 12 rfl (by omega) (.inl rfl)
  have va : zv_X4_valueAt X 0 0 0 = zn (zw_Lt x y p q A B W 0 0 12) := (zw_val (i := 0) (j := 0) (l := 0) (by omega) (by omega) (by omega)).trans (g2 0 0 (by omega) (by omega) 0 (by omega))
  have st : zf_X4_findTurnsBy N (nI x) (nI y) I J = zl_X4_findTurnsBy N (u' + 1) 20 0 0 (nI 0 - 1) 0 X J := by
    rw [nI_pred] at g3
    obtain ⟨M, rfl⟩ := zu_one N hN
    rw [zo_X4_findTurnsBy]
    unfold zb_X4_findTurnsBy_0
    rw [h.2.1, ← hS]
    exact g3
  rw [zo_X4_findTurnsBy_20] at st
  unfold zb_X4_findTurnsBy_20 at st
  rw [if_pos (show nI 0 - 1 < 0 by decide), va] at st
  by_cases c : 2000000 ≤ zw_Lt x y p q A B W 0 0 12
  · rw [if_pos (show (0 : Int32) ≤ zn _ by rw [show (0 : Int32) = zn 2000000 by decide, zn_le (by omega) (by omega)]; exact c)] at st
    have hLX : zw_L p q A B W X := zw_L_c hL (by rw [g1 41 (by omega)]) (by rw [g1 41 (by omega)]) (g1 42 (by omega)) (g1 43 (by omega))
    obtain ⟨X', f1, f2, f3, f4, _, f6⟩ := zw_fo_l (N := N) (J := J) hx hy hLX (by rw [g1 41 (by omega)]; exact S8) g2 (p + q) 0 0 0 0 (N - 1) X (by omega) (by omega) (by omega) (by omega) (by omega) (by rw [Nat.zero_add]; exact c) (by omega) (fun _ _ _ => rfl) (fun _ _ => rfl) (by rw [g1 41 (by omega)]; exact S5)
    refine ⟨X', fun z a b c => by rw [f2 z a c, g1 z b, Sx z a], .inl ⟨c, ?_, f4, fun k hk => ?_⟩⟩
    · have fl : zf_X4_followLatest N X J = some (0, X', J) := by
        obtain ⟨M, rfl⟩ := zu_one N hN
        rw [zo_X4_followLatest]
        unfold zb_X4_followLatest_0
        rw [hLX.2.1, hLX.2.2.1, nI_add]
        exact f1
      rw [st, fl]; rfl
    · have := f6 k hk
      rw [show 0 + 0 + k = k by omega] at this
      exact this
  · rw [if_neg (show ¬ (0 : Int32) ≤ zn _ by rw [show (0 : Int32) = zn 2000000 by decide, zn_le (by omega) (by omega)]; exact c)] at st
    exact ⟨X, fun z a b _ => by rw [g1 z b, Sx z a], .inr ⟨c, st, by rw [g1 41 (by omega)]; exact S5⟩⟩
end
