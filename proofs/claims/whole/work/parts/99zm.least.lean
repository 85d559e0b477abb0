/-! CUTS: THE LEAST CHANGE, ONE CUT -/
theorem zc_two {c : Int32} {x y : Nat} (hx : x < 32) (hy : y < 32) : (c &&& (((1 : Int32) <<< (nI x &&& 31)) ||| ((1 : Int32) <<< (nI y &&& 31))) = (((1 : Int32) <<< (nI x &&& 31)) ||| ((1 : Int32) <<< (nI y &&& 31)))) ↔ (bt c x = true ∧ bt c y = true) := by
  have b : ∀ i, i < 32 → bt (((1 : Int32) <<< (nI x &&& 31)) ||| ((1 : Int32) <<< (nI y &&& 31))) i = (decide (i = x) || decide (i = y)) := fun i hi => by rw [b_or, b_bit x hx hi, b_bit y hy hi]
  constructor
  · intro h
    have e : ∀ i, i < 32 → (bt c i && (decide (i = x) || decide (i = y))) = (decide (i = x) || decide (i = y)) := fun i hi => by rw [← b i hi, ← b_and, h]
    have e1 := e x hx
    have e2 := e y hy
    rw [decide_eq_true (show x = x from rfl), Bool.true_or, Bool.and_true] at e1
    rw [decide_eq_true (show y = y from rfl), Bool.or_true, Bool.and_true] at e2
    exact ⟨e1, e2⟩
  · rintro ⟨h1, h2⟩
    apply b_ext
    intro i hi
    rw [b_and, b i hi]
    by_cases e1 : i = x
    · rw [e1, h1]; rfl
    · by_cases e2 : i = y
      · rw [e2, h2]; rfl
      · rw [decide_eq_false e1, decide_eq_false e2]; simp
section
variable {N n : Nat} {I : Nat → Nat → Int32} {J : Nat → Nat → Int64} {c : Int32} {W : Nat → Nat → Nat} {mi : Nat → Nat}
theorem zc_lc_i (hn : n ≤ 12) (hc : ∀ s, n ≤ s → s < 32 → bt c s = false) (hW : ∀ x y, x < n → y < n → I 42 (x * 12 + y) = nI (W x y) ∧ W x y ≤ 108 ∧ mi y ≤ W x y) {y : Nat} (hy : y < 12) (hm : y < n → zz_f I (nI y) 1 = nI (mi y)) : ∀ k x u lc, x + k = 12 → k < u → lc ≤ 99 → ∃ lc', lc' ≤ lc ∧ (∀ x', x ≤ x' → x' < n → y < n → bt c x' = true → bt c y = true → x' ≠ y → lc' + mi y ≤ W x' y) ∧ zl_X4_leastChangeAmong N u 25 c (nI lc) (nI y) (zz_f I (nI y) 1) (nI x) 0 I J = zl_X4_leastChangeAmong N (u - k - 1) 5 c (nI lc') (nI (y + 1)) 0 0 0 I J := by
  intro k
  induction k with
  | zero =>
    intro x u lc hx hu hl
    obtain ⟨v, rfl⟩ : ∃ v, u = v + 1 := ⟨u - 1, by omega⟩
    obtain rfl : x = 12 := by omega
    refine ⟨lc, Nat.le_refl _, fun x' h1 h2 => by omega, ?_⟩
    rw [zo_X4_leastChangeAmong_25]
    unfold zb_X4_leastChangeAmong_25
    rw [if_pos (show (12 : Int32) ≤ nI 12 by decide), nI_1]
    rfl
  | succ k ih =>
    intro x u lc hx hu hl
    obtain ⟨v, rfl⟩ : ∃ v, u = v + 1 := ⟨u - 1, by omega⟩
    have skip : (x < n → y < n → bt c x = true → bt c y = true → x ≠ y → False) → ∃ lc', lc' ≤ lc ∧ (∀ x', x ≤ x' → x' < n → y < n → bt c x' = true → bt c y = true → x' ≠ y → lc' + mi y ≤ W x' y) ∧ zl_X4_leastChangeAmong N v 25 c (nI lc) (nI y) (zz_f I (nI y) 1) (nI (x + 1)) 0 I J = zl_X4_leastChangeAmong N (v + 1 - (k + 1) - 1) 5 c (nI lc') (nI (y + 1)) 0 0 0 I J := fun no => by
      obtain ⟨lc', b1, b2, b3⟩ := ih (x + 1) v lc (by omega) (by omega) hl
      refine ⟨lc', b1, fun x' h1 h2 h3 h4 h5 h6 => ?_, by rw [b3, show v + 1 - (k + 1) - 1 = v - k - 1 by omega]⟩
      by_cases e : x' = x
      · subst e; exact (no h2 h3 h4 h5 h6).elim
      · exact b2 x' (by omega) h2 h3 h4 h5 h6
    rw [zo_X4_leastChangeAmong_25]
    unfold zb_X4_leastChangeAmong_25
    rw [if_neg (show ¬ (12 : Int32) ≤ nI x from nI_ge (b := 12) (by omega) (by omega)), nI_1]
    by_cases e : x = y
    · rw [if_pos (by rw [e])]
      exact skip (fun _ _ _ _ w => w e)
    · rw [if_neg (fun w => e ((nI_eq (by omega) (by omega)).mp w))]
      by_cases t : bt c x = true ∧ bt c y = true
      · have xn : x < n := Nat.lt_of_not_le (fun w => by rw [hc x w (by omega)] at t; cases t.1)
        have yn : y < n := Nat.lt_of_not_le (fun w => by rw [hc y w (by omega)] at t; cases t.2)
        obtain ⟨w1, w2, w3⟩ := hW x y xn yn
        rw [if_neg (fun w => w ((zc_two (by omega) (by omega)).mpr t)), show nI x * 12 = nI (x * 12) from pk_mul x 12, nI_add, if_pos (nI_in (show x * 12 + y < 156 by omega) (by omega)), nI_clamp (by omega), w1, hm yn, pk_sub w3, zz_minN (by omega) (by omega)]
        obtain ⟨lc', b1, b2, b3⟩ := ih (x + 1) v (min lc (W x y - mi y)) (by omega) (by omega) (by omega)
        rw [hm yn] at b3
        refine ⟨lc', by omega, fun x' h1 h2 h3 h4 h5 h6 => ?_, by rw [b3, show v + 1 - (k + 1) - 1 = v - k - 1 by omega]⟩
        by_cases e' : x' = x
        · subst e'; omega
        · exact b2 x' (by omega) h2 h3 h4 h5 h6
      · rw [if_pos (fun w => t ((zc_two (by omega) (by omega)).mp w))]
        exact skip (fun _ _ a b _ => t ⟨a, b⟩)
theorem zc_lc_o (hn : n ≤ 12) (hc : ∀ s, n ≤ s → s < 32 → bt c s = false) (hW : ∀ x y, x < n → y < n → I 42 (x * 12 + y) = nI (W x y) ∧ W x y ≤ 108 ∧ mi y ≤ W x y) (hm : ∀ y, y < n → zz_f I (nI y) 1 = nI (mi y)) : ∀ k y u lc, y + k = 12 → 20 * k < u → lc ≤ 99 → ∃ lc', lc' ≤ lc ∧ (∀ x' y', y ≤ y' → x' < n → y' < n → bt c x' = true → bt c y' = true → x' ≠ y' → lc' + mi y' ≤ W x' y') ∧ zl_X4_leastChangeAmong N u 5 c (nI lc) (nI y) 0 0 0 I J = some (nI lc', I, J) := by
  intro k
  induction k with
  | zero =>
    intro y u lc hy hu hl
    obtain ⟨v, rfl⟩ : ∃ v, u = v + 1 := ⟨u - 1, by omega⟩
    obtain rfl : y = 12 := by omega
    refine ⟨lc, Nat.le_refl _, fun x' y' h1 h2 h3 => by omega, ?_⟩
    rw [zo_X4_leastChangeAmong_5]
    unfold zb_X4_leastChangeAmong_5
    rw [if_pos (show (12 : Int32) ≤ nI 12 by decide)]
  | succ k ih =>
    intro y u lc hy hu hl
    obtain ⟨v, rfl⟩ : ∃ v, u = v + 1 := ⟨u - 1, by omega⟩
    rw [zo_X4_leastChangeAmong_5]
    unfold zb_X4_leastChangeAmong_5
    rw [if_neg (show ¬ (12 : Int32) ≤ nI y from nI_ge (b := 12) (by omega) (by omega))]
    obtain ⟨l1, a1, a2, a3⟩ := zc_lc_i (N := N) (J := J) hn hc hW (show y < 12 by omega) (hm y) 12 0 v lc (by omega) (by omega) hl
    obtain ⟨l2, b1, b2, b3⟩ := ih (y + 1) (v - 12 - 1) l1 (by omega) (by omega) (by omega)
    refine ⟨l2, by omega, fun x' y' h1 h2 h3 h4 h5 h6 => ?_, by rw [show zl_X4_leastChangeAmong N v 25 c (nI lc) (nI y) (zz_f I (nI y) 1) 0 0 I J = _ from a3, b3]⟩
    by_cases e : y' = y
    · subst e
      have := a2 x' (by omega) h2 h3 h4 h5 h6
      omega
    · exact b2 x' y' (by omega) h2 h3 h4 h5 h6
theorem zs_lc (hN : 100000 ≤ N) (hn : n ≤ 12) (hc : ∀ s, n ≤ s → s < 32 → bt c s = false) (hW : ∀ x y, x < n → y < n → I 42 (x * 12 + y) = nI (W x y) ∧ W x y ≤ 108 ∧ mi y ≤ W x y) (hm : ∀ y, y < n → zz_f I (nI y) 1 = nI (mi y)) : ∃ lc, lc ≤ 99 ∧ (∀ x y, x < n → y < n → bt c x = true → bt c y = true → x ≠ y → lc + mi y ≤ W x y) ∧ zf_X4_leastChangeAmong N c I J = some (nI lc, I, J) := by
  obtain ⟨lc, a1, a2, a3⟩ := zc_lc_o (N := N) (J := J) hn hc hW hm 12 0 (N - 1) 99 (by omega) (by omega) (by omega)
  refine ⟨lc, a1, fun x y h1 h2 h3 h4 h5 => a2 x y (by omega) h1 h2 h3 h4 h5, ?_⟩
  obtain ⟨M, rfl⟩ := zu_one N hN
  rw [zo_X4_leastChangeAmong]
  exact a3
end
