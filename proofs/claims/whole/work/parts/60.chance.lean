/-! FRACTIONS: both divide by the greatest common number -/
theorem zu_l0 : (0 : Int64) = lN 0 := rfl
theorem zu_cmp0 {a : Nat} (h : a < 2 ^ 63) : (lg_cmp (lN a) 0 = 0) = (a = 0) := by
  apply propext
  rw [lg_cmp_eq, zu_l0]
  exact pk_lEQ h (by omega)
theorem zu_lz {a : Nat} (h : a < 2 ^ 63) : (lN a = 0) = (a = 0) := by
  apply propext
  rw [zu_l0]
  exact pk_lEQ h (by omega)
theorem zu_half {b c : Nat} (h0 : 0 < c) (h : c ≤ b) : 2 * (b % c) < b + 1 := by
  have h1 := Nat.mod_lt b h0
  have h2 := Nat.div_add_mod b c
  have h3 : 1 ≤ b / c := (Nat.one_le_div_iff h0).mpr h
  have h4 : c ≤ c * (b / c) := Nat.le_mul_of_pos_right c h3
  omega
theorem zs_frac_l {N : Nat} {I : Nat → Nat → Int32} {J : Nat → Nat → Int64} (u v : Int64) : ∀ k a b j f, a < 2 ^ 31 → b < 2 ^ k → b < 2 ^ 31 → 0 < a + b → j + 2 * k < 99 → 2 * k < f → zl_X11_tellFraction N f 9 u v (lN a) (lN b) (nI j) I J = some (0, zz_u I 2 3 2, zz_u (zz_u J 4 0 (u / lN (Nat.gcd a b))) 4 1 (v / lN (Nat.gcd a b))) := by
  intro k
  have fin : ∀ a j m, a < 2 ^ 31 → 0 < a → j < 100 → zl_X11_tellFraction N (m + 1) 9 u v (lN a) (lN 0) (nI j) I J = some (0, zz_u I 2 3 2, zz_u (zz_u J 4 0 (u / lN a)) 4 1 (v / lN a)) := by
    intro a j m ha h0 hj
    rw [zo_X11_tellFraction_9]
    unfold zb_X11_tellFraction_9
    rw [if_neg (show ¬ (100 : Int32) ≤ nI j from nI_ge (b := 100) (by omega) (by omega))]
    simp only [zu_cmp0 (a := 0) (by omega), zu_cmp0 (a := a) (by omega), zu_lz (a := a) (by omega), if_true, zu_t2, zu_x2]
    have : ¬ a = 0 := by omega
    simp [this]
  induction k with
  | zero =>
    intro a b j f ha hb hb2 h0 hj hf
    have : b = 0 := by simp at hb; omega
    subst this
    obtain ⟨m, rfl⟩ : ∃ m, f = m + 1 := ⟨f - 1, by omega⟩
    rw [Nat.gcd_zero_right]
    exact fin a j m ha (by omega) (by omega)
  | succ k ih =>
    intro a b j f ha hb hb2 h0 hj hf
    obtain ⟨m, rfl⟩ : ∃ m, f = m + 1 + 1 := ⟨f - 2, by omega⟩
    by_cases z : b = 0
    · subst z
      rw [Nat.gcd_zero_right]
      exact fin a j (m + 1) ha (by omega) (by omega)
    · have r1 : a % b < b := Nat.mod_lt a (by omega)
      have g1 : Nat.gcd a b = Nat.gcd b (a % b) := by rw [Nat.gcd_comm, Nat.gcd_rec, Nat.gcd_comm]
      have one : zl_X11_tellFraction N (m + 1 + 1) 9 u v (lN a) (lN b) (nI j) I J = zl_X11_tellFraction N (m + 1) 9 u v (lN b) (lN (a % b)) (nI (j + 1)) I J := by
        rw [zo_X11_tellFraction_9]
        unfold zb_X11_tellFraction_9
        rw [if_neg (show ¬ (100 : Int32) ≤ nI j from nI_ge (b := 100) (by omega) (by omega))]
        simp only [zu_cmp0 (a := b) (by omega), zu_lz (a := b) (by omega), nI_1, pk_lRem (a := a) (b := b) (by omega) (by omega) (by omega)]
        simp [z]
      rw [one, g1]
      by_cases z2 : a % b = 0
      · rw [z2, Nat.gcd_zero_right]
        exact fin b (j + 1) m hb2 (by omega) (by omega)
      · have r2 := zu_half (b := b) (c := a % b) (by omega) (by omega)
        have r3 : b % (a % b) < a % b := Nat.mod_lt b (by omega)
        have g2 : Nat.gcd b (a % b) = Nat.gcd (a % b) (b % (a % b)) := by rw [Nat.gcd_comm, Nat.gcd_rec, Nat.gcd_comm]
        have two : zl_X11_tellFraction N (m + 1) 9 u v (lN b) (lN (a % b)) (nI (j + 1)) I J = zl_X11_tellFraction N m 9 u v (lN (a % b)) (lN (b % (a % b))) (nI (j + 1 + 1)) I J := by
          rw [zo_X11_tellFraction_9]
          unfold zb_X11_tellFraction_9
          rw [if_neg (show ¬ (100 : Int32) ≤ nI (j + 1) from nI_ge (b := 100) (by omega) (by omega))]
          simp only [zu_cmp0 (a := a % b) (by omega), zu_lz (a := a % b) (by omega), nI_1, pk_lRem (a := b) (b := a % b) (by omega) (by omega) (by omega)]
          simp [z2]
        rw [two, g2]
        have p : 2 ^ (k + 1) = 2 * 2 ^ k := by rw [Nat.pow_succ]; omega
        exact ih (a % b) (b % (a % b)) (j + 1 + 1) m (by omega) (by omega) (by omega) (by omega) (by omega) (by omega)
theorem zs_frac {N : Nat} (hN : 100000 ≤ N) {I : Nat → Nat → Int32} {J : Nat → Nat → Int64} {a b : Nat} (ha : a < 2 ^ 31) (hb : b < 2 ^ 20) (h0 : 0 < b) : zf_X11_tellFraction N (lN a) (lN b) I J = some (0, zz_u I 2 3 2, zz_u (zz_u J 4 0 (lN a / lN (Nat.gcd a b))) 4 1 (lN b / lN (Nat.gcd a b))) := by
  obtain ⟨M, rfl⟩ := zu_one N hN
  rw [zo_X11_tellFraction]
  exact zs_frac_l (lN a) (lN b) 20 a b 0 M ha hb (by omega) (by omega) (by omega) (by omega)
