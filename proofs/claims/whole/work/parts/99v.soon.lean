/-! THE CLASS FILLS ITS TABLE FORTH -/
def zw_U (A B : Nat → Nat) (W : Nat → Nat → Nat) (X : Nat → Nat → Int32) (i j : Nat) : Prop := ∀ l, l ≤ 1 → X 44 ((i * 13 + j) * 2 + l) = nI (zw_V A B W i j l)
theorem zw_re {p q : Nat} {A B : Nat → Nat} {W : Nat → Nat → Nat} {X : Nat → Nat → Int32} (h : zw_L p q A B W X) {i j l : Nat} (hi : i ≤ p) (hj : j ≤ q) (hl : l ≤ 1) (h0 : 0 < i → zw_U A B W X (i - 1) j) (h1 : 0 < j → zw_U A B W X i (j - 1)) : zv_X4_reach X (nI i) (nI j) (nI l) = nI (zw_V A B W i j l) := by
  have pq := h.1
  have bd : ∀ i j l, i ≤ p → j ≤ q → l ≤ 1 → zw_V A B W i j l ≤ 1001296 := fun i j l a b c => by
    have := (zw_V_le (zw_W h) (i + j) i j l rfl a b c).1; omega
  have d0 : ∀ k, nI (k + 1) ≠ 0 ∨ 30 ≤ k := fun k => by
    by_cases c : k < 30
    · exact .inl (fun w => by have := (nI_eq (b := 0) (by omega) (by omega)).mp w; omega)
    · exact .inr (by omega)
  have A0 : ∀ i', i = i' + 1 → l = 0 → zz_min (zv_X4_valueAt X (nI i - 1) (nI j) 0 + zv_X4_stepBy X (nI i - 1) (nI j) 0 (nI l)) (zv_X4_valueAt X (nI i - 1) (nI j) 1 + zv_X4_stepBy X (nI i - 1) (nI j) 1 (nI l)) = nI (zw_V A B W i j l) := fun i' e el => by
    subst e; subst el
    have t := h0 (by omega)
    rw [show i' + 1 - 1 = i' by omega] at t
    have s0 := zw_step0 h (show i' < p by omega) hj (show 0 ≤ 1 by omega)
    have s1 := zw_step0 h (show i' < p by omega) hj (show 1 ≤ 1 by omega)
    have v0 : zv_X4_valueAt X (nI i') (nI j) 0 = nI (zw_V A B W i' j 0) := (zw_val (l := 0) (by omega) (by omega) (by omega)).trans (t 0 (by omega))
    have v1 : zv_X4_valueAt X (nI i') (nI j) 1 = nI (zw_V A B W i' j 1) := (zw_val (l := 1) (by omega) (by omega) (by omega)).trans (t 1 (by omega))
    have b0 := bd i' j 0 (by omega) hj (by omega)
    have b1 := bd i' j 1 (by omega) hj (by omega)
    have w0 := zw_W h _ _ (zw_ca_ok (l := 0) (show i' ≤ p by omega) hj) (.inl ⟨i', by omega, rfl⟩ : zw_in p q A B (A i'))
    have w1 := zw_W h _ _ (zw_ca_ok (l := 1) (show i' ≤ p by omega) hj) (.inl ⟨i', by omega, rfl⟩ : zw_in p q A B (A i'))
    rw [nI_pred, v0, v1, show zv_X4_stepBy X (nI i') (nI j) 0 (nI 0) = _ from s0, show zv_X4_stepBy X (nI i') (nI j) 1 (nI 0) = _ from s1, nI_add, nI_add, zz_minN (by omega) (by omega), zw_V0]
  have A1 : ∀ j', j = j' + 1 → l = 1 → zz_min (zv_X4_valueAt X (nI i) (nI j - 1) 0 + zv_X4_stepBy X (nI i) (nI j - 1) 0 (nI l)) (zv_X4_valueAt X (nI i) (nI j - 1) 1 + zv_X4_stepBy X (nI i) (nI j - 1) 1 (nI l)) = nI (zw_V A B W i j l) := fun j' e el => by
    subst e; subst el
    have t := h1 (by omega)
    rw [show j' + 1 - 1 = j' by omega] at t
    have s0 := zw_step1 h hi (show j' < q by omega) (show 0 ≤ 1 by omega)
    have s1 := zw_step1 h hi (show j' < q by omega) (show 1 ≤ 1 by omega)
    have v0 : zv_X4_valueAt X (nI i) (nI j') 0 = nI (zw_V A B W i j' 0) := (zw_val (l := 0) (by omega) (by omega) (by omega)).trans (t 0 (by omega))
    have v1 : zv_X4_valueAt X (nI i) (nI j') 1 = nI (zw_V A B W i j' 1) := (zw_val (l := 1) (by omega) (by omega) (by omega)).trans (t 1 (by omega))
    have b0 := bd i j' 0 hi (by omega) (by omega)
    have b1 := bd i j' 1 hi (by omega) (by omega)
    have w0 := zw_W h _ _ (zw_ca_ok (l := 0) hi (show j' ≤ q by omega)) (.inr ⟨j', by omega, rfl⟩ : zw_in p q A B (B j'))
    have w1 := zw_W h _ _ (zw_ca_ok (l := 1) hi (show j' ≤ q by omega)) (.inr ⟨j', by omega, rfl⟩ : zw_in p q A B (B j'))
    rw [nI_pred, v0, v1, show zv_X4_stepBy X (nI i) (nI j') 0 (nI 1) = _ from s0, show zv_X4_stepBy X (nI i) (nI j') 1 (nI 1) = _ from s1, nI_add, nI_add, zz_minN (by omega) (by omega), zw_V1]
  unfold zv_X4_reach
  rcases (by omega : l = 0 ∨ l = 1) with e | e
  · have z0 : ¬ ¬ nI l = 0 := fun w => w (by rw [e]; rfl)
    rcases Nat.eq_zero_or_pos i with i0 | i0
    · have x0 : ¬ ¬ nI i = 0 := fun w => w (by rw [i0]; rfl)
      rw [if_neg x0]
      rcases Nat.eq_zero_or_pos j with j0 | j0
      · rw [if_neg (show ¬ ¬ nI j = 0 from fun w => w (by rw [j0]; rfl)), i0, j0, zw_V00]; rfl
      · rw [if_pos (show ¬ nI j = 0 from fun w => by have := (nI_eq (b := 0) (by omega) (by omega)).mp w; omega), if_neg z0, if_pos (show nI i - 1 < 0 by rw [i0]; decide), i0, e, show j = (j - 1) + 1 by omega, zw_V0n]; rfl
    · rw [if_pos (show ¬ nI i = 0 from fun w => by have := (nI_eq (b := 0) (by omega) (by omega)).mp w; omega), if_neg z0, if_neg (show ¬ nI i - 1 < 0 by rw [show i = (i - 1) + 1 by omega, nI_pred]; exact nI_pos (by omega)), if_pos (show (0 : Int32) ≤ nI j from Int32.not_lt.mp (nI_pos (by omega)))]
      exact A0 (i - 1) (by omega) e
  · have z0 : ¬ nI l = 0 := by rw [e]; decide
    have fin : (if nI i < 0 then (1000000 : Int32) else (if 0 ≤ nI j - 1 then (zz_min (zv_X4_valueAt X (nI i) (nI j - 1) 0 + zv_X4_stepBy X (nI i) (nI j - 1) 0 (nI l)) (zv_X4_valueAt X (nI i) (nI j - 1) 1 + zv_X4_stepBy X (nI i) (nI j - 1) 1 (nI l))) else 1000000)) = nI (zw_V A B W i j l) ∨ (i = 0 ∧ j = 0) := by
      rcases Nat.eq_zero_or_pos j with j0 | j0
      · rcases Nat.eq_zero_or_pos i with i0 | i0
        · exact .inr ⟨i0, j0⟩
        · left
          rw [if_neg (nI_pos (by omega)), if_neg (show ¬ (0 : Int32) ≤ nI j - 1 by rw [j0]; decide), e, j0, show i = (i - 1) + 1 by omega, zw_V1n]; rfl
      · left
        rw [if_neg (nI_pos (by omega)), if_pos (show (0 : Int32) ≤ nI j - 1 by rw [show j = (j - 1) + 1 by omega, nI_pred]; exact Int32.not_lt.mp (nI_pos (by omega)))]
        exact A1 (j - 1) (by omega) e
    rcases Nat.eq_zero_or_pos i with i0 | i0
    · have x0 : ¬ ¬ nI i = 0 := fun w => w (by rw [i0]; rfl)
      rw [if_neg x0]
      rcases Nat.eq_zero_or_pos j with j0 | j0
      · rw [if_neg (show ¬ ¬ nI j = 0 from fun w => w (by rw [j0]; rfl)), i0, j0, zw_V00]; rfl
      · rw [if_pos (show ¬ nI j = 0 from fun w => by have := (nI_eq (b := 0) (by omega) (by omega)).mp w; omega), if_pos z0]
        exact fin.resolve_right (by omega)
    · rw [if_pos (show ¬ nI i = 0 from fun w => by have := (nI_eq (b := 0) (by omega) (by omega)).mp w; omega), if_pos z0]
      exact fin.resolve_right (by omega)
theorem zw_ff_i {N p q : Nat} {A B : Nat → Nat} {W : Nat → Nat → Nat} {I : Nat → Nat → Int32} {J : Nat → Nat → Int64} (h : zw_L p q A B W I) {i : Nat} (hi : i ≤ p) : ∀ k j u (X : Nat → Nat → Int32), j + k = q + 1 → k < u → (∀ x, x ≠ 44 → X x = I x) → (∀ i' j', i' ≤ p → j' ≤ q → (i' < i ∨ i' = i ∧ j' < j) → zw_U A B W X i' j') → ∃ X', (∀ x, x ≠ 44 → X' x = I x) ∧ (∀ i' j', i' ≤ p → j' ≤ q → i' ≤ i → zw_U A B W X' i' j') ∧ zl_X4_fillForth N u 12 (nI i) (nI j) X J = zl_X4_fillForth N (u - k - 1) 2 (nI (i + 1)) 0 X' J := by
  have pq := h.1
  intro k
  induction k with
  | zero =>
    intro j u X hk hu hX hT
    obtain ⟨v, rfl⟩ : ∃ v, u = v + 1 := ⟨u - 1, by omega⟩
    refine ⟨X, hX, fun i' j' h1 h2 h3 => hT i' j' h1 h2 (by omega), ?_⟩
    rw [zo_X4_fillForth_12]
    unfold zb_X4_fillForth_12
    rw [hX 41 (by omega), h.2.2.1, if_pos (nI_lt (by omega) (by omega)), nI_1]
    rfl
  | succ k ih =>
    intro j u X hk hu hX hT
    obtain ⟨v, rfl⟩ : ∃ v, u = v + 1 := ⟨u - 1, by omega⟩
    have hL : zw_L p q A B W X := zw_L_c h (by rw [hX 41 (by omega)]) (by rw [hX 41 (by omega)]) (hX 42 (by omega)) (hX 43 (by omega))
    rw [zo_X4_fillForth_12]
    unfold zb_X4_fillForth_12
    rw [hX 41 (by omega), h.2.2.1, if_neg (nI_nlt (by omega) (by omega))]
    have r0 : zv_X4_reach X (nI i) (nI j) 0 = nI (zw_V A B W i j 0) := zw_re hL hi (by omega) (l := 0) (by omega) (fun q => hT (i - 1) j (by omega) (by omega) (by omega)) (fun q => hT i (j - 1) hi (by omega) (by omega))
    have p0 : ∀ Y v, zw_X4_put Y (nI i) (nI j) 0 v = zz_u Y 44 ((i * 13 + j) * 2 + 0) v := fun Y v => zw_put (l := 0) (by omega) (by omega) (by omega) v
    have p1 : ∀ Y v, zw_X4_put Y (nI i) (nI j) 1 v = zz_u Y 44 ((i * 13 + j) * 2 + 1) v := fun Y v => zw_put (l := 1) (by omega) (by omega) (by omega) v
    rw [r0, p0]
    generalize hX1 : zz_u X 44 ((i * 13 + j) * 2 + 0) (nI (zw_V A B W i j 0)) = X1
    have X1T : ∀ i' j', i' ≤ p → j' ≤ q → (i' < i ∨ i' = i ∧ j' < j) → zw_U A B W X1 i' j' := fun i' j' h1 h2 h3 l hl => by
      rw [← hX1, zz_un (by omega)]
      exact hT i' j' h1 h2 h3 l hl
    have X1x : ∀ x, x ≠ 44 → X1 x = I x := fun x hx => by rw [← hX1, zu_ux hx, hX x hx]
    have hL1 : zw_L p q A B W X1 := zw_L_c h (by rw [X1x 41 (by omega)]) (by rw [X1x 41 (by omega)]) (X1x 42 (by omega)) (X1x 43 (by omega))
    have r1 : zv_X4_reach X1 (nI i) (nI j) 1 = nI (zw_V A B W i j 1) := zw_re hL1 hi (by omega) (l := 1) (by omega) (fun q => X1T (i - 1) j (by omega) (by omega) (by omega)) (fun q => X1T i (j - 1) hi (by omega) (by omega))
    rw [r1, p1, nI_1]
    obtain ⟨X', g1, g2, g3⟩ := ih (j + 1) v (zz_u X1 44 ((i * 13 + j) * 2 + 1) (nI (zw_V A B W i j 1))) (by omega) (by omega) (fun x hx => by rw [zu_ux hx, X1x x hx]) (fun i' j' h1 h2 h3 l hl => by
      by_cases e : i' = i ∧ j' = j
      · obtain ⟨rfl, rfl⟩ := e
        rcases (by omega : l = 0 ∨ l = 1) with rfl | rfl
        · rw [zz_un (by omega), ← hX1, zz_us]
        · rw [zz_us]
      · rw [zz_un (by omega)]
        exact X1T i' j' h1 h2 (by omega) l hl)
    exact ⟨X', g1, g2, by rw [g3, show v + 1 - (k + 1) - 1 = v - k - 1 by omega]⟩
theorem zw_ff_o {N p q : Nat} {A B : Nat → Nat} {W : Nat → Nat → Nat} {I : Nat → Nat → Int32} {J : Nat → Nat → Int64} (h : zw_L p q A B W I) : ∀ k i u (X : Nat → Nat → Int32), i + k = p + 1 → 20 * k < u → (∀ x, x ≠ 44 → X x = I x) → (∀ i' j', i' ≤ p → j' ≤ q → i' < i → zw_U A B W X i' j') → ∃ X', (∀ x, x ≠ 44 → X' x = I x) ∧ (∀ i' j', i' ≤ p → j' ≤ q → zw_U A B W X' i' j') ∧ zl_X4_fillForth N u 2 (nI i) 0 X J = some (0, X', J) := by
  have pq := h.1
  intro k
  induction k with
  | zero =>
    intro i u X hk hu hX hT
    obtain ⟨v, rfl⟩ : ∃ v, u = v + 1 := ⟨u - 1, by omega⟩
    refine ⟨X, hX, fun i' j' h1 h2 => hT i' j' h1 h2 (by omega), ?_⟩
    rw [zo_X4_fillForth_2]
    unfold zb_X4_fillForth_2
    rw [hX 41 (by omega), h.2.1, if_pos (nI_lt (by omega) (by omega))]
  | succ k ih =>
    intro i u X hk hu hX hT
    obtain ⟨v, rfl⟩ : ∃ v, u = v + 1 := ⟨u - 1, by omega⟩
    rw [zo_X4_fillForth_2]
    unfold zb_X4_fillForth_2
    rw [hX 41 (by omega), h.2.1, if_neg (nI_nlt (by omega) (by omega))]
    obtain ⟨X1, g1, g2, g3⟩ := zw_ff_i (N := N) h (J := J) (show i ≤ p by omega) (q + 1) 0 v X (by omega) (by omega) hX (fun i' j' h1 h2 h3 => hT i' j' h1 h2 (by omega))
    rw [show zl_X4_fillForth N v 12 (nI i) 0 X J = _ from g3]
    exact ih (i + 1) (v - (q + 1) - 1) X1 (by omega) (by omega) g1 (fun i' j' h1 h2 h3 => g2 i' j' h1 h2 (by omega))
theorem zw_ff {N p q : Nat} (hN : 100000 ≤ N) {A B : Nat → Nat} {W : Nat → Nat → Nat} {I : Nat → Nat → Int32} {J : Nat → Nat → Int64} (h : zw_L p q A B W I) : ∃ X', (∀ x, x ≠ 44 → X' x = I x) ∧ (∀ i' j', i' ≤ p → j' ≤ q → zw_U A B W X' i' j') ∧ zf_X4_fillForth N I J = some (0, X', J) := by
  have pq := h.1
  obtain ⟨X', g1, g2, g3⟩ := zw_ff_o (N := N) h (J := J) (p + 1) 0 (N - 1) I (by omega) (by omega) (fun _ _ => rfl) (fun i' j' h1 h2 h3 => by omega)
  refine ⟨X', g1, g2, ?_⟩
  obtain ⟨M, rfl⟩ := zu_one N hN
  rw [zo_X4_fillForth]
  exact g3
/-! with so many of a play -/
/-- what is reached with so many of a play and so many others -/
def zw_rw (A B : Nat → Nat) (W : Nat → Nat → Nat) (pl own oth : Nat) : Nat := if pl = 0 then zw_V A B W own oth 0 else zw_V A B W oth own 1
/-- the least up to there -/
def zw_mn (f : Nat → Nat) : Nat → Nat
  | 0 => 1000000
  | k + 1 => min (zw_mn f k) (f k)
theorem zw_mn_le {f : Nat → Nat} : ∀ {k i : Nat}, i < k → zw_mn f k ≤ f i
  | k + 1, i, h => by
    show min _ _ ≤ _
    by_cases e : i = k
    · subst e; omega
    · have := zw_mn_le (f := f) (show i < k by omega); omega
theorem zw_mn_b {f : Nat → Nat} : ∀ k, zw_mn f k ≤ 1000000
  | 0 => Nat.le_refl _
  | k + 1 => by
    show min _ _ ≤ _
    have := zw_mn_b (f := f) k; omega
theorem zw_mn_at {f : Nat → Nat} : ∀ k, zw_mn f k = 1000000 ∨ ∃ i, i < k ∧ zw_mn f k = f i
  | 0 => .inl rfl
  | k + 1 => by
    show min _ _ = _ ∨ ∃ i, _ ∧ min _ _ = _
    by_cases c : zw_mn f k ≤ f k
    · rw [show min (zw_mn f k) (f k) = zw_mn f k by omega]
      rcases zw_mn_at (f := f) k with e | ⟨i, hi, e⟩
      · exact .inl e
      · exact .inr ⟨i, by omega, e⟩
    · exact .inr ⟨k, by omega, by omega⟩
theorem zw_rwV {p q : Nat} {A B : Nat → Nat} {W : Nat → Nat → Nat} {X : Nat → Nat → Int32} (pq : p + q ≤ 12) (hU : ∀ i j, i ≤ p → j ≤ q → zw_U A B W X i j) {pl own oth : Nat} (hpl : pl ≤ 1) (h1 : own ≤ if pl = 0 then p else q) (h2 : oth ≤ if pl = 0 then q else p) : zv_X4_reachedWith X (nI pl) (nI own) (nI oth) = nI (zw_rw A B W pl own oth) := by
  unfold zv_X4_reachedWith zw_rw
  rcases (by omega : pl = 0 ∨ pl = 1) with rfl | rfl
  · rw [if_pos rfl] at h1 h2
    rw [if_neg (show ¬ ¬ nI 0 = 0 from fun w => w rfl), if_pos rfl]
    exact (zw_val (l := 0) (by omega) (by omega) (by omega)).trans (hU own oth h1 h2 0 (by omega))
  · rw [if_neg (by omega)] at h1 h2
    rw [if_pos (show ¬ nI 1 = 0 by decide), if_neg (by omega)]
    exact (zw_val (l := 1) (by omega) (by omega) (by omega)).trans (hU oth own h2 h1 1 (by omega))
theorem zw_rwb {p q : Nat} {A B : Nat → Nat} {W : Nat → Nat → Nat} (hW : ∀ x y, (x = 12 ∨ zw_in p q A B x) → zw_in p q A B y → W x y ≤ 108) (pq : p + q ≤ 12) {pl own oth : Nat} (hpl : pl ≤ 1) (h1 : own ≤ if pl = 0 then p else q) (h2 : oth ≤ if pl = 0 then q else p) : zw_rw A B W pl own oth ≤ 1001296 ∧ (0 < own → zw_rw A B W pl own oth ≤ 1296) := by
  unfold zw_rw
  rcases (by omega : pl = 0 ∨ pl = 1) with rfl | rfl
  · rw [if_pos rfl] at h1 h2 ⊢
    have := zw_V_le hW (own + oth) own oth 0 rfl h1 h2 (by omega)
    exact ⟨by omega, fun w => by have := this.2 (.inr (.inl ⟨rfl, w⟩)); omega⟩
  · rw [if_neg (by omega)] at h1 h2 ⊢
    have := zw_V_le hW (oth + own) oth own 1 rfl h2 h1 (by omega)
    exact ⟨by omega, fun w => by have := this.2 (.inr (.inr ⟨rfl, w⟩)); omega⟩
section
variable {N p q : Nat} {A B : Nat → Nat} {W : Nat → Nat → Nat} {X : Nat → Nat → Int32} {J : Nat → Nat → Int64}
theorem zw_so1 {pl : Nat} (h : zw_L p q A B W X) (hpl : pl ≤ 1) : zv_X4_sizeOf X (1 - nI pl) = nI (if pl = 0 then q else p) := by
  rcases (by omega : pl = 0 ∨ pl = 1) with rfl | rfl
  · exact zs_sizeOf h (pl := 1) (by omega)
  · exact zs_sizeOf h (pl := 0) (by omega)
theorem zs_sw (hN : 100000 ≤ N) (h : zw_L p q A B W X) (hU : ∀ i j, i ≤ p → j ≤ q → zw_U A B W X i j) {pl own : Nat} (hpl : pl ≤ 1) (h1 : own ≤ if pl = 0 then p else q) : zf_X4_soonestWith N (nI pl) (nI own) X J = some (nI (zw_mn (zw_rw A B W pl own) ((if pl = 0 then q else p) + 1)), X, J) := by
  have pq := h.1
  have so := zw_so1 h hpl
  have hE : (if pl = 0 then q else p) ≤ 12 := by split <;> omega
  have rv : ∀ oth, oth ≤ (if pl = 0 then q else p) → zv_X4_reachedWith X (nI pl) (nI own) (nI oth) = nI (zw_rw A B W pl own oth) := fun oth h2 => zw_rwV pq hU hpl h1 h2
  have rb : ∀ oth, oth ≤ (if pl = 0 then q else p) → zw_rw A B W pl own oth ≤ 1001296 := fun oth h2 => (zw_rwb (zw_W h) pq hpl h1 h2).1
  generalize (if pl = 0 then q else p) = E at *
  have lp : ∀ r k u, k + r = E + 1 → r < u → zl_X4_soonestWith N u 6 (nI pl) (nI own) (nI (zw_mn (zw_rw A B W pl own) k)) (nI k) X J = some (nI (zw_mn (zw_rw A B W pl own) (E + 1)), X, J) := by
    intro r
    induction r with
    | zero =>
      intro k u hk hu
      obtain ⟨v, rfl⟩ : ∃ v, u = v + 1 := ⟨u - 1, by omega⟩
      obtain rfl : k = E + 1 := by omega
      rw [zo_X4_soonestWith_6]
      unfold zb_X4_soonestWith_6
      rw [so, if_pos (nI_lt (by omega) (by omega))]
    | succ r ih =>
      intro k u hk hu
      obtain ⟨v, rfl⟩ : ∃ v, u = v + 1 := ⟨u - 1, by omega⟩
      have := zw_mn_b (f := zw_rw A B W pl own) k
      have := rb k (by omega)
      rw [zo_X4_soonestWith_6]
      unfold zb_X4_soonestWith_6
      rw [so, if_neg (nI_nlt (by omega) (by omega)), rv k (by omega), zz_minN (by omega) (by omega), nI_1]
      exact ih (k + 1) v (by omega) (by omega)
  obtain ⟨M, rfl⟩ := zu_one N hN
  rw [zo_X4_soonestWith]
  exact lp (E + 1) 0 M (by omega) (by omega)
/-- the first that is so -/
def zw_ft (f : Nat → Nat) (v : Nat) : Nat → Nat → Nat
  | 0, k => k
  | r + 1, k => if f k = v then k else zw_ft f v r (k + 1)
theorem zw_ft_ok {f : Nat → Nat} {v : Nat} : ∀ r k, (∃ i, k ≤ i ∧ i < k + r ∧ f i = v) → k ≤ zw_ft f v r k ∧ zw_ft f v r k < k + r ∧ f (zw_ft f v r k) = v ∧ ∀ i, k ≤ i → i < zw_ft f v r k → f i ≠ v := by
  intro r
  induction r with
  | zero => intro k ⟨i, a, b, _⟩; omega
  | succ r ih =>
    intro k ⟨i, a, b, c⟩
    show k ≤ (if f k = v then k else _) ∧ (if f k = v then k else _) < _ ∧ f (if f k = v then k else _) = v ∧ ∀ i, k ≤ i → i < (if f k = v then k else _) → f i ≠ v
    by_cases e : f k = v
    · rw [if_pos e]
      exact ⟨Nat.le_refl _, by omega, e, fun i _ _ => by omega⟩
    · rw [if_neg e]
      have ik : i ≠ k := fun w => e (by rw [← w]; exact c)
      obtain ⟨x1, x2, x3, x4⟩ := ih (k + 1) ⟨i, by omega, by omega, c⟩
      refine ⟨by omega, by omega, x3, fun i' h1 h2 => ?_⟩
      by_cases z : i' = k
      · rw [z]; exact e
      · exact x4 i' (by omega) h2
theorem zs_fo (hN : 100000 ≤ N) (h : zw_L p q A B W X) (hU : ∀ i j, i ≤ p → j ≤ q → zw_U A B W X i j) {pl own v : Nat} (hpl : pl ≤ 1) (h1 : own ≤ if pl = 0 then p else q) (hv : v ≤ 1000000) (ex : ∃ i, i < (if pl = 0 then q else p) + 1 ∧ zw_rw A B W pl own i = v) : zf_X4_fewestOthers N (nI pl) (nI own) (nI v) X J = some (nI (zw_ft (zw_rw A B W pl own) v ((if pl = 0 then q else p) + 1) 0), X, J) := by
  have pq := h.1
  have so := zw_so1 h hpl
  have hE : (if pl = 0 then q else p) ≤ 12 := by split <;> omega
  have rv : ∀ oth, oth ≤ (if pl = 0 then q else p) → zv_X4_reachedWith X (nI pl) (nI own) (nI oth) = nI (zw_rw A B W pl own oth) := fun oth h2 => zw_rwV pq hU hpl h1 h2
  have rb : ∀ oth, oth ≤ (if pl = 0 then q else p) → zw_rw A B W pl own oth ≤ 1001296 := fun oth h2 => (zw_rwb (zw_W h) pq hpl h1 h2).1
  generalize (if pl = 0 then q else p) = E at *
  have lp : ∀ r k u, k + r = E + 1 → r < u → (∃ i, k ≤ i ∧ i < E + 1 ∧ zw_rw A B W pl own i = v) → zl_X4_fewestOthers N u 3 (nI pl) (nI own) (nI v) (nI k) X J = some (nI (zw_ft (zw_rw A B W pl own) v r k), X, J) := by
    intro r
    induction r with
    | zero => intro k u hk hu ⟨i, a, b, _⟩; omega
    | succ r ih =>
      intro k u hk hu ⟨i, a, b, c⟩
      obtain ⟨w, rfl⟩ : ∃ v, u = v + 1 := ⟨u - 1, by omega⟩
      have b2 := rb k (by omega)
      rw [zo_X4_fewestOthers_3]
      unfold zb_X4_fewestOthers_3
      rw [so, if_neg (nI_nlt (by omega) (by omega)), rv k (by omega), nI_1]
      show _ = some (nI (if zw_rw A B W pl own k = v then k else _), X, J)
      by_cases e : zw_rw A B W pl own k = v
      · rw [if_neg (fun w => w (by rw [e])), if_pos e]
      · rw [if_pos (fun w => e ((nI_eq (by omega) (by omega)).mp w)), if_neg e]
        exact ih (k + 1) w (by omega) (by omega) ⟨i, Nat.lt_of_le_of_ne a (fun z => e (by rw [z]; exact c)), b, c⟩
  obtain ⟨M, rfl⟩ := zu_one N hN
  rw [zo_X4_fewestOthers]
  obtain ⟨i, a, b⟩ := ex
  exact lp (E + 1) 0 M (by omega) (by omega) ⟨i, Nat.zero_le _, a, b⟩
theorem zw_neg : ∀ k, k < 13 → ∀ i, i < 14 → k < i → nI k - nI i < 0 := by decide +kernel
/-- how soon so many can be played -/
def zw_sf (p q : Nat) (A B : Nat → Nat) (W : Nat → Nat → Nat) (k i : Nat) : Nat := if i ≤ k ∧ k - i ≤ q then min (zw_V A B W i (k - i) 0) (zw_V A B W i (k - i) 1) else 1000000
theorem zs_so (hN : 100000 ≤ N) (h : zw_L p q A B W X) (hU : ∀ i j, i ≤ p → j ≤ q → zw_U A B W X i j) {k : Nat} (hk : k ≤ 12) : zf_X4_soonestOf N (nI k) X J = some (nI (zw_mn (zw_sf p q A B W k) (p + 1)), X, J) := by
  have pq := h.1
  have lp : ∀ r i u, i + r = p + 1 → r < u → zl_X4_soonestOf N u 5 (nI k) (nI (zw_mn (zw_sf p q A B W k) i)) (nI i) X J = some (nI (zw_mn (zw_sf p q A B W k) (p + 1)), X, J) := by
    intro r
    induction r with
    | zero =>
      intro i u hi hu
      obtain ⟨v, rfl⟩ : ∃ v, u = v + 1 := ⟨u - 1, by omega⟩
      obtain rfl : i = p + 1 := by omega
      rw [zo_X4_soonestOf_5]
      unfold zb_X4_soonestOf_5
      rw [h.2.1, if_pos (nI_lt (by omega) (by omega))]
    | succ r ih =>
      intro i u hi hu
      obtain ⟨v, rfl⟩ : ∃ v, u = v + 1 := ⟨u - 1, by omega⟩
      have mb := zw_mn_b (f := zw_sf p q A B W k) i
      have nx := ih (i + 1) v (by omega) (by omega)
      have ms : zw_mn (zw_sf p q A B W k) (i + 1) = min (zw_mn (zw_sf p q A B W k) i) (zw_sf p q A B W k i) := rfl
      rw [zo_X4_soonestOf_5]
      unfold zb_X4_soonestOf_5
      rw [h.2.1, h.2.2.1, if_neg (nI_nlt (by omega) (by omega)), nI_1]
      by_cases c : i ≤ k
      · rw [pk_sub c, if_neg (nI_pos (by omega))]
        by_cases d : k - i ≤ q
        · have b0 := (zw_V_le (zw_W h) (i + (k - i)) i (k - i) 0 rfl (by omega) d (by omega)).1
          have b1 := (zw_V_le (zw_W h) (i + (k - i)) i (k - i) 1 rfl (by omega) d (by omega)).1
          rw [if_neg (nI_nlt (by omega) (by omega)), show zv_X4_valueAt X (nI i) (nI (k - i)) 0 = _ from (zw_val (l := 0) (by omega) (by omega) (by omega)).trans (hU i (k - i) (by omega) d 0 (by omega)), show zv_X4_valueAt X (nI i) (nI (k - i)) 1 = _ from (zw_val (l := 1) (by omega) (by omega) (by omega)).trans (hU i (k - i) (by omega) d 1 (by omega)), zz_minN (by omega) (by omega), zz_minN (by omega) (by omega)]
          rw [ms, show zw_sf p q A B W k i = _ from if_pos ⟨c, d⟩] at nx
          exact nx
        · rw [if_pos (nI_lt (by omega) (by omega))]
          rw [ms, show zw_sf p q A B W k i = 1000000 from if_neg (fun w => d w.2), show min (zw_mn (zw_sf p q A B W k) i) 1000000 = zw_mn (zw_sf p q A B W k) i by omega] at nx
          exact nx
      · have ng : nI k - nI i < 0 := by
          exact zw_neg k (by omega) i (by omega) (by omega)
        rw [if_pos ng]
        rw [ms, show zw_sf p q A B W k i = 1000000 from if_neg (fun w => c w.1), show min (zw_mn (zw_sf p q A B W k) i) 1000000 = zw_mn (zw_sf p q A B W k) i by omega] at nx
        exact nx
  obtain ⟨M, rfl⟩ := zu_one N hN
  rw [zo_X4_soonestOf]
  exact lp (p + 1) 0 M (by omega) (by omega)
end
