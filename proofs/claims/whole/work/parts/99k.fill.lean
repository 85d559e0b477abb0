/-! THE CLASS FILLS ITS TABLE -/
theorem zw_m1 (k : Nat) : nI (k + 1) - 1 + -1 = nI k - 1 := by
  rw [nI_pred]
  exact (Int32.sub_eq_add_neg _ _).symm
def zw_T (op : Nat → Nat → Nat) (p q : Nat) (A B : Nat → Nat) (W : Nat → Nat → Nat) (X : Nat → Nat → Int32) (i j : Nat) : Prop := ∀ l, l ≤ 1 → X 44 ((i * 13 + j) * 2 + l) = nI (zw_D op p q A B W i j (zw_ca A B i j l))
theorem zw_L_c {p q : Nat} {A B : Nat → Nat} {W : Nat → Nat → Nat} {I X : Nat → Nat → Int32} (h : zw_L p q A B W I) (h41 : X 41 6 = I 41 6) (h41' : X 41 7 = I 41 7) (h42 : X 42 = I 42) (h43 : X 43 = I 43) : zw_L p q A B W X := by
  unfold zw_L at h ⊢
  rw [h41, h41', h42, h43]
  exact h
theorem zw_W {p q : Nat} {A B : Nat → Nat} {W : Nat → Nat → Nat} {I : Nat → Nat → Int32} (h : zw_L p q A B W I) : ∀ x y, (x = 12 ∨ zw_in p q A B x) → zw_in p q A B y → W x y ≤ 108 := fun x y hx hy => (h.2.2.2.2.2.2.2 x y hx hy).2
/-- what is left by a play -/
theorem zw_rb0 {w p q : Nat} {A B : Nat → Nat} {W : Nat → Nat → Nat} {X : Nat → Nat → Int32} (h : zw_L p q A B W X) {i j l : Nat} (hi : i < p) (hj : j ≤ q) (hl : l ≤ 1) (ht : zw_T (zw_op w) p q A B W X (i + 1) j) : zv_X4_restBy X (nI i) (nI j) (nI l) 0 = nI (W (zw_ca A B i j l) (A i) + zw_D (zw_op w) p q A B W (i + 1) j (A i)) := by
  have pq := h.1
  unfold zv_X4_restBy
  rw [zw_step0 h hi hj hl, zw_beh0 (by omega) (by omega), ht 0 (by omega), nI_add]
  congr 2
theorem zw_rb1 {w p q : Nat} {A B : Nat → Nat} {W : Nat → Nat → Nat} {X : Nat → Nat → Int32} (h : zw_L p q A B W X) {i j l : Nat} (hi : i ≤ p) (hj : j < q) (hl : l ≤ 1) (ht : zw_T (zw_op w) p q A B W X i (j + 1)) : zv_X4_restBy X (nI i) (nI j) (nI l) 1 = nI (W (zw_ca A B i j l) (B j) + zw_D (zw_op w) p q A B W i (j + 1) (B j)) := by
  have pq := h.1
  unfold zv_X4_restBy
  rw [zw_step1 h hi hj hl, zw_beh1 (by omega) (by omega), ht 1 (by omega), nI_add]
  congr 2
theorem zw_rf {w p q : Nat} (hw : w ≤ 1) {A B : Nat → Nat} {W : Nat → Nat → Nat} {X : Nat → Nat → Int32} (h : zw_L p q A B W X) {i j l : Nat} (hi : i ≤ p) (hj : j ≤ q) (hl : l ≤ 1) (h0 : i < p → zw_T (zw_op w) p q A B W X (i + 1) j) (h1 : j < q → zw_T (zw_op w) p q A B W X i (j + 1)) : zv_X4_restFrom X (nI i) (nI j) (nI l) (nI w) = nI (zw_D (zw_op w) p q A B W i j (zw_ca A B i j l)) := by
  have pq := h.1
  unfold zv_X4_restFrom
  rw [h.2.1, h.2.2.1]
  have ok := zw_ca_ok (p := p) (q := q) (A := A) (B := B) (l := l) hi hj
  by_cases q0 : i < p
  · have e0 : zw_in p q A B (A i) := .inl ⟨i, q0, rfl⟩
    have b0 := zw_D_le (w := w) (zw_W h) _ (i + 1) j (A i) rfl (.inr e0)
    have c0 := zw_W h _ _ ok e0
    rw [if_pos (nI_lt q0 (by omega)), zw_rb0 h q0 hj hl (h0 q0)]
    by_cases q1 : j < q
    · have e1 : zw_in p q A B (B j) := .inr ⟨j, q1, rfl⟩
      have b1 := zw_D_le (w := w) (zw_W h) _ i (j + 1) (B j) rfl (.inr e1)
      have c1 := zw_W h _ _ ok e1
      rw [if_pos (nI_lt q1 (by omega)), zw_rb1 h hi q1 hl (h1 q1), zw_Db q0 q1]
      exact (zw_opN (w := w) (by omega) (by omega)).resolve_right (by omega)
    · rw [if_neg (nI_nlt (by omega) (by omega)), zw_D0 q0 (by omega)]
  · rw [if_neg (nI_nlt (by omega) (by omega))]
    by_cases q1 : j < q
    · rw [if_pos (nI_lt q1 (by omega)), zw_rb1 h hi q1 hl (h1 q1), zw_D1 (by omega) q1]
    · rw [if_neg (nI_nlt (by omega) (by omega)), zw_De (by omega) (by omega)]
      rfl
theorem zw_fill_i {N w p q : Nat} (hw : w ≤ 1) {A B : Nat → Nat} {W : Nat → Nat → Nat} {I : Nat → Nat → Int32} {J : Nat → Nat → Int64} (h : zw_L p q A B W I) {i : Nat} (hi : i ≤ p) : ∀ k u (X : Nat → Nat → Int32), k ≤ q + 1 → k < u → (∀ x, x ≠ 44 → X x = I x) → (∀ i' j', i' ≤ p → j' ≤ q → (i < i' ∨ i' = i ∧ k ≤ j') → zw_T (zw_op w) p q A B W X i' j') → ∃ X', (∀ x, x ≠ 44 → X' x = I x) ∧ (∀ i' j', i' ≤ p → j' ≤ q → i ≤ i' → zw_T (zw_op w) p q A B W X' i' j') ∧ zl_X4_fillBack N u 14 (nI w) (nI i) (nI k - 1) X J = zl_X4_fillBack N (u - k - 1) 5 (nI w) (nI i + (-1)) 0 X' J := by
  have pq := h.1
  intro k
  induction k with
  | zero =>
    intro u X hk hu hX hT
    obtain ⟨v, rfl⟩ : ∃ v, u = v + 1 := ⟨u - 1, by omega⟩
    refine ⟨X, hX, fun i' j' h1 h2 h3 => hT i' j' h1 h2 (by omega), ?_⟩
    rw [zo_X4_fillBack_14]
    unfold zb_X4_fillBack_14
    rw [if_pos (show nI 0 - 1 < 0 by decide)]
    rfl
  | succ k ih =>
    intro u X hk hu hX hT
    obtain ⟨v, rfl⟩ : ∃ v, u = v + 1 := ⟨u - 1, by omega⟩
    have hL : zw_L p q A B W X := zw_L_c h (by rw [hX 41 (by omega)]) (by rw [hX 41 (by omega)]) (hX 42 (by omega)) (hX 43 (by omega))
    rw [zo_X4_fillBack_14]
    unfold zb_X4_fillBack_14
    rw [zw_m1, nI_pred, if_neg (nI_pos (by omega))]
    have r0 : zv_X4_restFrom X (nI i) (nI k) 0 (nI w) = nI (zw_D (zw_op w) p q A B W i k (zw_ca A B i k 0)) := zw_rf hw hL hi (by omega) (l := 0) (by omega) (fun q => hT (i + 1) k (by omega) (by omega) (by omega)) (fun q => hT i (k + 1) hi (by omega) (by omega))
    have p0 : ∀ Y v, zw_X4_put Y (nI i) (nI k) 0 v = zz_u Y 44 ((i * 13 + k) * 2 + 0) v := fun Y v => zw_put (l := 0) (by omega) (by omega) (by omega) v
    have p1 : ∀ Y v, zw_X4_put Y (nI i) (nI k) 1 v = zz_u Y 44 ((i * 13 + k) * 2 + 1) v := fun Y v => zw_put (l := 1) (by omega) (by omega) (by omega) v
    rw [r0, p0]
    generalize hX1 : zz_u X 44 ((i * 13 + k) * 2 + 0) (nI (zw_D (zw_op w) p q A B W i k (zw_ca A B i k 0))) = X1
    have X1T : ∀ i' j', i' ≤ p → j' ≤ q → (i < i' ∨ i' = i ∧ k + 1 ≤ j') → zw_T (zw_op w) p q A B W X1 i' j' := fun i' j' h1 h2 h3 l hl => by
      rw [← hX1, zz_un (by omega)]
      exact hT i' j' h1 h2 h3 l hl
    have X1x : ∀ x, x ≠ 44 → X1 x = I x := fun x hx => by rw [← hX1, zu_ux hx, hX x hx]
    have hL1 : zw_L p q A B W X1 := zw_L_c h (by rw [X1x 41 (by omega)]) (by rw [X1x 41 (by omega)]) (X1x 42 (by omega)) (X1x 43 (by omega))
    have r1 : zv_X4_restFrom X1 (nI i) (nI k) 1 (nI w) = nI (zw_D (zw_op w) p q A B W i k (zw_ca A B i k 1)) := zw_rf hw hL1 hi (by omega) (l := 1) (by omega) (fun q => X1T (i + 1) k (by omega) (by omega) (by omega)) (fun q => X1T i (k + 1) hi (by omega) (by omega))
    rw [r1, p1]
    obtain ⟨X', g1, g2, g3⟩ := ih v (zz_u X1 44 ((i * 13 + k) * 2 + 1) (nI (zw_D (zw_op w) p q A B W i k (zw_ca A B i k 1)))) (by omega) (by omega) (fun x hx => by rw [zu_ux hx, X1x x hx]) (fun i' j' h1 h2 h3 l hl => by
      by_cases e : i' = i ∧ j' = k
      · obtain ⟨rfl, rfl⟩ := e
        rcases (by omega : l = 0 ∨ l = 1) with rfl | rfl
        · rw [zz_un (by omega), ← hX1, zz_us]
        · rw [zz_us]
      · rw [zz_un (by omega)]
        exact X1T i' j' h1 h2 (by omega) l hl)
    exact ⟨X', g1, g2, by rw [g3, show v + 1 - (k + 1) - 1 = v - k - 1 by omega]⟩
theorem zw_fill_o {N w p q : Nat} (hw : w ≤ 1) {A B : Nat → Nat} {W : Nat → Nat → Nat} {I : Nat → Nat → Int32} {J : Nat → Nat → Int64} (h : zw_L p q A B W I) : ∀ k u (X : Nat → Nat → Int32), k ≤ p + 1 → 20 * k < u → (∀ x, x ≠ 44 → X x = I x) → (∀ i' j', i' ≤ p → j' ≤ q → k ≤ i' → zw_T (zw_op w) p q A B W X i' j') → ∃ X', (∀ x, x ≠ 44 → X' x = I x) ∧ (∀ i' j', i' ≤ p → j' ≤ q → zw_T (zw_op w) p q A B W X' i' j') ∧ zl_X4_fillBack N u 5 (nI w) (nI k - 1) 0 X J = some (nI (zw_D (zw_op w) p q A B W 0 0 12), X', J) := by
  have pq := h.1
  intro k
  induction k with
  | zero =>
    intro u X hk hu hX hT
    obtain ⟨v, rfl⟩ : ∃ v, u = v + 1 := ⟨u - 1, by omega⟩
    refine ⟨X, hX, fun i' j' h1 h2 => hT i' j' h1 h2 (by omega), ?_⟩
    rw [zo_X4_fillBack_5]
    unfold zb_X4_fillBack_5
    rw [if_pos (show nI 0 - 1 < 0 by decide), show zv_X4_valueAt X 0 0 0 = X 44 ((0 * 13 + 0) * 2 + 0) from zw_val (i := 0) (j := 0) (l := 0) (by omega) (by omega) (by omega), hT 0 0 (by omega) (by omega) (by omega) 0 (by omega)]
    rfl
  | succ k ih =>
    intro u X hk hu hX hT
    obtain ⟨v, rfl⟩ : ∃ v, u = v + 1 := ⟨u - 1, by omega⟩
    rw [zo_X4_fillBack_5]
    unfold zb_X4_fillBack_5
    rw [nI_pred, if_neg (nI_pos (by omega)), hX 41 (by omega), h.2.2.1, show nI q = nI (q + 1) - 1 from (nI_pred q).symm]
    obtain ⟨X1, g1, g2, g3⟩ := zw_fill_i (N := N) hw h (J := J) (show k ≤ p by omega) (q + 1) v X (by omega) (by omega) hX (fun i' j' h1 h2 h3 => hT i' j' h1 h2 (by omega))
    rw [g3, show nI k + -1 = nI k - 1 from (Int32.sub_eq_add_neg _ _).symm]
    exact ih (v - (q + 1) - 1) X1 (by omega) (by omega) g1 (fun i' j' h1 h2 h3 => g2 i' j' h1 h2 h3)
theorem zw_fill {N w p q : Nat} (hN : 100000 ≤ N) (hw : w ≤ 1) {A B : Nat → Nat} {W : Nat → Nat → Nat} {I : Nat → Nat → Int32} {J : Nat → Nat → Int64} (h : zw_L p q A B W I) : ∃ X', (∀ x, x ≠ 44 → X' x = I x) ∧ (∀ i' j', i' ≤ p → j' ≤ q → zw_T (zw_op w) p q A B W X' i' j') ∧ zf_X4_fillBack N (nI w) I J = some (nI (zw_D (zw_op w) p q A B W 0 0 12), X', J) := by
  have pq := h.1
  obtain ⟨X', g1, g2, g3⟩ := zw_fill_o (N := N) hw h (J := J) (p + 1) (N - 1) I (by omega) (by omega) (fun _ _ => rfl) (fun i' j' h1 h2 h3 => by omega)
  refine ⟨X', g1, g2, ?_⟩
  rw [nI_pred] at g3
  obtain ⟨M, rfl⟩ := zu_one N hN
  rw [zo_X4_fillBack]
  unfold zb_X4_fillBack_0
  rw [h.2.1]
  exact g3
/-! the costs -/
theorem zw_sc_i {N : Nat} {I : Nat → Nat → Int32} {J : Nat → Nat → Int64} {last : Int32} (hlast : last = -1 ∨ ∃ s, s < 12 ∧ last = nI s) {y : Nat} (hy : y < 12) : ∀ k x u (X : Nat → Nat → Int32), x + k = 12 → k < u → (∀ z, z ≠ 42 → X z = I z) → (∀ x', x' < x → X 42 (x' * 12 + y) = zv_X1_between I (nI x') (nI y) + zz_f I (nI y) 1) → ∃ X', (∀ z, z ≠ 42 → X' z = I z) ∧ (∀ x', x' < 12 → X' 42 (x' * 12 + y) = zv_X1_between I (nI x') (nI y) + zz_f I (nI y) 1) ∧ X' 42 (144 + y) = zv_X1_between I last (nI y) + zz_f I (nI y) 1 ∧ (∀ x' y', x' ≤ 12 → y' < 12 → y' ≠ y → X' 42 (x' * 12 + y') = X 42 (x' * 12 + y')) ∧ zl_X4_setCosts__28 N u 22 last (nI y) (zz_f I (nI y) 1) (nI x) X J = zl_X4_setCosts__28 N (u - k - 1) 2 last (nI y + 1) 0 0 X' J := by
  intro k
  induction k with
  | zero =>
    intro x u X hx hu hX hT
    obtain ⟨v, rfl⟩ : ∃ v, u = v + 1 := ⟨u - 1, by omega⟩
    obtain rfl : x = 12 := by omega
    have bt : zv_X1_between X = zv_X1_between I := by
      funext a b
      unfold zv_X1_between
      rw [hX 31 (by omega)]
    refine ⟨zz_u X 42 (144 + y) (zv_X1_between I last (nI y) + zz_f I (nI y) 1), fun z hz => by rw [zu_ux hz, hX z hz], fun x' h1 => by rw [zz_un (by omega)]; exact hT x' h1, zz_us _ _ _ _, fun x' y' h1 h2 h3 => by rw [zz_un (by omega)], ?_⟩
    rw [zo_X4_setCosts__28_22]
    unfold zb_X4_setCosts__28_22
    rw [if_pos (show (12 : Int32) ≤ nI 12 by decide), if_pos (fun g1 g2 _ _ => by
      rcases hlast with rfl | ⟨s, hs, rfl⟩
      · exact absurd (by decide) g1
      · rw [show nI s * 12 = nI (s * 12) from pk_mul s 12, nI_add]
        exact nI_in (by omega) (by omega)), show (144 : Int32) + nI y = nI (144 + y) from nI_add 144 y, if_pos (nI_in (show 144 + y < 156 by omega) (by omega)), nI_clamp (by omega), bt]
    rfl
  | succ k ih =>
    intro x u X hx hu hX hT
    obtain ⟨v, rfl⟩ : ∃ v, u = v + 1 := ⟨u - 1, by omega⟩
    have bt : zv_X1_between X = zv_X1_between I := by
      funext a b
      unfold zv_X1_between
      rw [hX 31 (by omega)]
    rw [zo_X4_setCosts__28_22]
    unfold zb_X4_setCosts__28_22
    rw [if_neg (show ¬ (12 : Int32) ≤ nI x from nI_ge (b := 12) (by omega) (by omega)), show nI x * 12 = nI (x * 12) from pk_mul x 12, nI_add, if_pos (fun _ _ _ _ => nI_in (show x * 12 + y < 144 by omega) (by omega)), if_pos (nI_in (show x * 12 + y < 156 by omega) (by omega)), nI_clamp (by omega), bt, nI_1]
    obtain ⟨X', g1, g2, g3, g4, g5⟩ := ih (x + 1) v (zz_u X 42 (x * 12 + y) (zv_X1_between I (nI x) (nI y) + zz_f I (nI y) 1)) (by omega) (by omega) (fun z hz => by rw [zu_ux hz, hX z hz]) (fun x' h1 => by
      by_cases e : x' = x
      · rw [e, zz_us]
      · rw [zz_un (by omega)]; exact hT x' (by omega))
    exact ⟨X', g1, g2, g3, fun x' y' h1 h2 h3 => by rw [g4 x' y' h1 h2 h3, zz_un (by omega)], by rw [g5, show v + 1 - (k + 1) - 1 = v - k - 1 by omega]⟩
theorem zw_sc_o {N : Nat} {I : Nat → Nat → Int32} {J : Nat → Nat → Int64} {last : Int32} (hlast : last = -1 ∨ ∃ s, s < 12 ∧ last = nI s) : ∀ k y u (X : Nat → Nat → Int32), y + k = 12 → 20 * k < u → (∀ z, z ≠ 42 → X z = I z) → (∀ y', y' < y → (∀ x', x' < 12 → X 42 (x' * 12 + y') = zv_X1_between I (nI x') (nI y') + zz_f I (nI y') 1) ∧ X 42 (144 + y') = zv_X1_between I last (nI y') + zz_f I (nI y') 1) → ∃ X', (∀ z, z ≠ 42 → X' z = I z) ∧ (∀ y', y' < 12 → (∀ x', x' < 12 → X' 42 (x' * 12 + y') = zv_X1_between I (nI x') (nI y') + zz_f I (nI y') 1) ∧ X' 42 (144 + y') = zv_X1_between I last (nI y') + zz_f I (nI y') 1) ∧ zl_X4_setCosts__28 N u 2 last (nI y) 0 0 X J = some (0, X', J) := by
  intro k
  induction k with
  | zero =>
    intro y u X hy hu hX hT
    obtain ⟨v, rfl⟩ : ∃ v, u = v + 1 := ⟨u - 1, by omega⟩
    obtain rfl : y = 12 := by omega
    refine ⟨X, hX, hT, ?_⟩
    rw [zo_X4_setCosts__28_2]
    unfold zb_X4_setCosts__28_2
    rw [if_pos (show (12 : Int32) ≤ nI 12 by decide)]
  | succ k ih =>
    intro y u X hy hu hX hT
    obtain ⟨v, rfl⟩ : ∃ v, u = v + 1 := ⟨u - 1, by omega⟩
    rw [zo_X4_setCosts__28_2]
    unfold zb_X4_setCosts__28_2
    have zf : zz_f X = zz_f I := by
      funext a b
      unfold zz_f
      rw [hX 6 (by omega)]
    rw [if_neg (show ¬ (12 : Int32) ≤ nI y from nI_ge (b := 12) (by omega) (by omega)), zf]
    obtain ⟨X1, g1, g2, g3, g4, g5⟩ := zw_sc_i (N := N) (I := I) (J := J) hlast (show y < 12 by omega) 12 0 v X (by omega) (by omega) hX (fun x' h1 => by omega)
    rw [show (0 : Int32) = nI 0 from rfl] at *
    rw [g5, nI_1]
    refine ih (y + 1) (v - 12 - 1) X1 (by omega) (by omega) g1 (fun y' h1 => ?_)
    by_cases e : y' = y
    · rw [e]; exact ⟨g2, g3⟩
    · have := hT y' (by omega)
      refine ⟨fun x' h2 => by rw [g4 x' y' (by omega) (by omega) e]; exact this.1 x' h2, ?_⟩
      rw [show 144 + y' = 12 * 12 + y' by omega, g4 12 y' (by omega) (by omega) e]
      exact this.2
