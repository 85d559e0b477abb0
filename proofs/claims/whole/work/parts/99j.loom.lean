/-! WEAVES, PURE; THE CLASS'S LOOM -/
/-- what was played last: 12 stands for what came ahead -/
def zw_ca (A B : Nat → Nat) (i j l : Nat) : Nat := if l = 0 then (if i = 0 then 12 else A (i - 1)) else (if j = 0 then 12 else B (j - 1))
/-- what is left, the best by op: fuel, then how many are played of each, and the last -/
def zw_E (op : Nat → Nat → Nat) (p q : Nat) (A B : Nat → Nat) (W : Nat → Nat → Nat) : Nat → Nat → Nat → Nat → Nat
  | 0, _, _, _ => 0
  | f + 1, i, j, x => if i < p then (if j < q then op (W x (A i) + zw_E op p q A B W f (i + 1) j (A i)) (W x (B j) + zw_E op p q A B W f i (j + 1) (B j)) else W x (A i) + zw_E op p q A B W f (i + 1) j (A i)) else (if j < q then W x (B j) + zw_E op p q A B W f i (j + 1) (B j) else 0)
def zw_D (op : Nat → Nat → Nat) (p q : Nat) (A B : Nat → Nat) (W : Nat → Nat → Nat) (i j x : Nat) : Nat := zw_E op p q A B W (p - i + (q - j)) i j x
section
variable {op : Nat → Nat → Nat} {p q : Nat} {A B : Nat → Nat} {W : Nat → Nat → Nat} {i j x : Nat}
theorem zw_Db (h1 : i < p) (h2 : j < q) : zw_D op p q A B W i j x = op (W x (A i) + zw_D op p q A B W (i + 1) j (A i)) (W x (B j) + zw_D op p q A B W i (j + 1) (B j)) := by
  unfold zw_D
  rw [show p - i + (q - j) = (p - (i + 1) + (q - j)) + 1 by omega]
  show (if i < p then _ else _) = _
  rw [if_pos h1, if_pos h2, show p - (i + 1) + (q - j) = p - i + (q - (j + 1)) by omega]
theorem zw_D0 (h1 : i < p) (h2 : q ≤ j) : zw_D op p q A B W i j x = W x (A i) + zw_D op p q A B W (i + 1) j (A i) := by
  unfold zw_D
  rw [show p - i + (q - j) = (p - (i + 1) + (q - j)) + 1 by omega]
  show (if i < p then _ else _) = _
  rw [if_pos h1, if_neg (by omega)]
theorem zw_D1 (h1 : p ≤ i) (h2 : j < q) : zw_D op p q A B W i j x = W x (B j) + zw_D op p q A B W i (j + 1) (B j) := by
  unfold zw_D
  rw [show p - i + (q - j) = (p - i + (q - (j + 1))) + 1 by omega]
  show (if i < p then _ else _) = _
  rw [if_neg (by omega), if_pos h2]
theorem zw_De (h1 : p ≤ i) (h2 : q ≤ j) : zw_D op p q A B W i j x = 0 := by
  unfold zw_D
  rw [show p - i + (q - j) = 0 by omega]
  rfl
end
/-- scenes that can stand behind, and those ahead of one -/
def zw_in (p q : Nat) (A B : Nat → Nat) (y : Nat) : Prop := (∃ i, i < p ∧ y = A i) ∨ ∃ j, j < q ∧ y = B j
/-- the loom is ready -/
def zw_L (p q : Nat) (A B : Nat → Nat) (W : Nat → Nat → Nat) (I : Nat → Nat → Int32) : Prop := p + q ≤ 12 ∧ I 41 6 = nI p ∧ I 41 7 = nI q ∧ I 43 0 = nI 12 ∧ I 43 13 = nI 12 ∧ (∀ i, i < p → I 43 (i + 1) = nI (A i) ∧ A i < 12) ∧ (∀ j, j < q → I 43 (13 + j + 1) = nI (B j) ∧ B j < 12) ∧ ∀ x y, x = 12 ∨ zw_in p q A B x → zw_in p q A B y → I 42 (x * 12 + y) = nI (W x y) ∧ W x y ≤ 108
theorem zw_in12 {p q : Nat} {A B : Nat → Nat} {W : Nat → Nat → Nat} {I : Nat → Nat → Int32} (h : zw_L p q A B W I) {y : Nat} (hy : zw_in p q A B y) : y < 12 := by
  rcases hy with ⟨i, hi, rfl⟩ | ⟨j, hj, rfl⟩
  · exact (h.2.2.2.2.2.1 i hi).2
  · exact (h.2.2.2.2.2.2.1 j hj).2
theorem zw_ca_ok {p q : Nat} {A B : Nat → Nat} {i j l : Nat} (hi : i ≤ p) (hj : j ≤ q) : zw_ca A B i j l = 12 ∨ zw_in p q A B (zw_ca A B i j l) := by
  unfold zw_ca
  by_cases l0 : l = 0
  · rw [if_pos l0]
    by_cases i0 : i = 0
    · rw [if_pos i0]; exact .inl rfl
    · rw [if_neg i0]; exact .inr (.inl ⟨i - 1, by omega, rfl⟩)
  · rw [if_neg l0]
    by_cases j0 : j = 0
    · rw [if_pos j0]; exact .inl rfl
    · rw [if_neg j0]; exact .inr (.inr ⟨j - 1, by omega, rfl⟩)
theorem zw_o0 {p q : Nat} {A B : Nat → Nat} {W : Nat → Nat → Nat} {I : Nat → Nat → Int32} (h : zw_L p q A B W I) {i : Nat} (hi : i ≤ p) (j : Nat) : I 43 i = nI (zw_ca A B i j 0) := by
  unfold zw_ca
  rw [if_pos rfl]
  by_cases i0 : i = 0
  · subst i0; exact h.2.2.2.1
  · rw [if_neg i0]
    have := (h.2.2.2.2.2.1 (i - 1) (by omega)).1
    rw [show i - 1 + 1 = i by omega] at this
    exact this
theorem zw_o1 {p q : Nat} {A B : Nat → Nat} {W : Nat → Nat → Nat} {I : Nat → Nat → Int32} (h : zw_L p q A B W I) {j : Nat} (hj : j ≤ q) (i : Nat) : I 43 (13 + j) = nI (zw_ca A B i j 1) := by
  unfold zw_ca
  rw [if_neg (by omega)]
  by_cases j0 : j = 0
  · subst j0; exact h.2.2.2.2.1
  · rw [if_neg j0]
    have := (h.2.2.2.2.2.2.1 (j - 1) (by omega)).1
    rw [show 13 + (j - 1) + 1 = 13 + j by omega] at this
    exact this
theorem zw_cost {p q : Nat} {A B : Nat → Nat} {W : Nat → Nat → Nat} {I : Nat → Nat → Int32} (h : zw_L p q A B W I) {x y : Nat} (hx : x = 12 ∨ zw_in p q A B x) (hy : zw_in p q A B y) {u v : Int32} (hu : u = nI x) (hv : v = nI y) : (if u * 12 + v < 0 then (1000000 : Int32) else if nI 156 ≤ u * 12 + v then 1000000 else I 42 (u * 12 + v).toNatClampNeg) = nI (W x y) := by
  have x12 : x ≤ 12 := hx.elim (fun w => by omega) (fun w => Nat.le_of_lt (zw_in12 h w))
  have y12 := zw_in12 h hy
  rw [hu, hv, show nI x * 12 = nI (x * 12) from pk_mul x 12, nI_add, if_neg (nI_pos (by omega)), if_neg (nI_ge (by omega) (by omega)), nI_clamp (by omega)]
  exact (h.2.2.2.2.2.2.2 x y hx hy).1
theorem zw_step0 {p q : Nat} {A B : Nat → Nat} {W : Nat → Nat → Nat} {I : Nat → Nat → Int32} (h : zw_L p q A B W I) {i j l : Nat} (hi : i < p) (hj : j ≤ q) (hl : l ≤ 1) : zv_X4_stepBy I (nI i) (nI j) (nI l) 0 = nI (W (zw_ca A B i j l) (A i)) := by
  have pq := h.1
  have n1 : I 43 (i + 1) = nI (A i) := (h.2.2.2.2.2.1 i hi).1
  have hy : zw_in p q A B (A i) := .inl ⟨i, hi, rfl⟩
  unfold zv_X4_stepBy
  rcases (by omega : l = 0 ∨ l = 1) with rfl | rfl
  · rw [if_neg (show ¬ ¬ nI 0 = 0 from fun w => w rfl), if_neg (show ¬ ¬ (0 : Int32) = 0 from fun w => w rfl), if_neg (nI_pos (by omega)), if_neg (nI_ge (by omega) (by omega)), nI_1, if_neg (nI_pos (by omega)), if_pos (nI_lt (by omega) (by omega)), nI_clamp (by omega), nI_clamp (by omega)]
    exact zw_cost h (zw_ca_ok (Nat.le_of_lt hi) hj) hy (zw_o0 h (Nat.le_of_lt hi) j) n1
  · rw [if_pos (show ¬ nI 1 = 0 by decide), if_neg (show ¬ ¬ (0 : Int32) = 0 from fun w => w rfl), show (13 : Int32) + nI j = nI (13 + j) from nI_add 13 j, if_neg (nI_pos (by omega)), if_neg (nI_ge (by omega) (by omega)), nI_1, if_neg (nI_pos (by omega)), if_pos (nI_lt (by omega) (by omega)), nI_clamp (by omega), nI_clamp (by omega)]
    exact zw_cost h (zw_ca_ok (Nat.le_of_lt hi) hj) hy (zw_o1 h hj i) n1
theorem zw_step1 {p q : Nat} {A B : Nat → Nat} {W : Nat → Nat → Nat} {I : Nat → Nat → Int32} (h : zw_L p q A B W I) {i j l : Nat} (hi : i ≤ p) (hj : j < q) (hl : l ≤ 1) : zv_X4_stepBy I (nI i) (nI j) (nI l) 1 = nI (W (zw_ca A B i j l) (B j)) := by
  have pq := h.1
  have n1 : I 43 (13 + j + 1) = nI (B j) := (h.2.2.2.2.2.2.1 j hj).1
  have hy : zw_in p q A B (B j) := .inr ⟨j, hj, rfl⟩
  unfold zv_X4_stepBy
  rw [show (13 : Int32) + nI j = nI (13 + j) from nI_add 13 j]
  rcases (by omega : l = 0 ∨ l = 1) with rfl | rfl
  · rw [if_neg (show ¬ ¬ nI 0 = 0 from fun w => w rfl), if_pos (show ¬ (1 : Int32) = 0 by decide), if_neg (nI_pos (by omega)), if_neg (nI_ge (by omega) (by omega)), nI_1, if_neg (nI_pos (by omega)), if_pos (nI_lt (by omega) (by omega)), nI_clamp (by omega), nI_clamp (by omega)]
    exact zw_cost h (zw_ca_ok hi (Nat.le_of_lt hj)) hy (zw_o0 h hi j) n1
  · rw [if_pos (show ¬ nI 1 = 0 by decide), if_pos (show ¬ (1 : Int32) = 0 by decide), if_neg (nI_pos (by omega)), if_neg (nI_ge (by omega) (by omega)), nI_1, if_neg (nI_pos (by omega)), if_pos (nI_lt (by omega) (by omega)), nI_clamp (by omega), nI_clamp (by omega)]
    exact zw_cost h (zw_ca_ok hi (Nat.le_of_lt hj)) hy (zw_o1 h (Nat.le_of_lt hj) i) n1
theorem zw_ix {i j l : Nat} : ((nI i * 13 + nI j) * 2 + nI l) = nI ((i * 13 + j) * 2 + l) := by
  rw [show nI i * 13 = nI (i * 13) from pk_mul i 13, nI_add, show nI (i * 13 + j) * 2 = nI ((i * 13 + j) * 2) from pk_mul _ 2, nI_add]
theorem zw_val {I : Nat → Nat → Int32} {i j l : Nat} (hi : i ≤ 12) (hj : j ≤ 12) (hl : l ≤ 1) : zv_X4_valueAt I (nI i) (nI j) (nI l) = I 44 ((i * 13 + j) * 2 + l) := by
  unfold zv_X4_valueAt
  rw [zw_ix, if_neg (nI_pos (by omega)), if_neg (nI_ge (by omega) (by omega)), nI_clamp (by omega)]
theorem zw_put {I : Nat → Nat → Int32} {i j l : Nat} (hi : i ≤ 12) (hj : j ≤ 12) (hl : l ≤ 1) (v : Int32) : zw_X4_put I (nI i) (nI j) (nI l) v = zz_u I 44 ((i * 13 + j) * 2 + l) v := by
  unfold zw_X4_put
  rw [zw_ix, if_neg (nI_pos (by omega)), if_neg (nI_ge (by omega) (by omega)), nI_clamp (by omega)]
theorem zw_beh0 {I : Nat → Nat → Int32} {i j : Nat} (hi : i < 12) (hj : j ≤ 12) : zv_X4_valueBehind I (nI i) (nI j) 0 = I 44 (((i + 1) * 13 + j) * 2 + 0) := by
  unfold zv_X4_valueBehind
  rw [if_neg (show ¬ ¬ (0 : Int32) = 0 from fun w => w rfl), nI_1, show nI (i + 1) * 13 = nI ((i + 1) * 13) from pk_mul _ 13, nI_add, show nI ((i + 1) * 13 + j) * 2 = nI (((i + 1) * 13 + j) * 2) from pk_mul _ 2, if_neg (nI_pos (by omega)), if_neg (nI_ge (by omega) (by omega)), nI_clamp (by omega)]
  rfl
theorem zw_beh1 {I : Nat → Nat → Int32} {i j : Nat} (hi : i ≤ 12) (hj : j < 12) : zv_X4_valueBehind I (nI i) (nI j) 1 = I 44 ((i * 13 + (j + 1)) * 2 + 1) := by
  unfold zv_X4_valueBehind
  rw [if_pos (show ¬ (1 : Int32) = 0 by decide), show nI i * 13 = nI (i * 13) from pk_mul _ 13, nI_add, nI_1, show nI (i * 13 + j + 1) * 2 = nI ((i * 13 + j + 1) * 2) from pk_mul _ 2, nI_1, if_neg (nI_pos (by omega)), if_neg (nI_ge (by omega) (by omega)), nI_clamp (by omega)]
  rfl
theorem zz_minN {a b : Nat} (ha : a < 2 ^ 31) (hb : b < 2 ^ 31) : zz_min (nI a) (nI b) = nI (min a b) := by
  unfold zz_min
  by_cases q : b < a
  · rw [if_pos (nI_lt q ha), show min a b = b by omega]
  · rw [if_neg (nI_nlt (by omega) hb), show min a b = a by omega]
theorem zz_maxN {a b : Nat} (ha : a < 2 ^ 31) (hb : b < 2 ^ 31) : zz_max (nI a) (nI b) = nI (max a b) := by
  unfold zz_max
  by_cases q : a < b
  · rw [if_pos (nI_lt q hb), show max a b = b by omega]
  · rw [if_neg (nI_nlt (by omega) ha), show max a b = a by omega]
/-- the two ways to fill the table: 0 the least, 1 the most -/
def zw_op (w : Nat) : Nat → Nat → Nat := if w = 0 then min else max
theorem zw_opN {w a b : Nat} (ha : a < 2 ^ 31) (hb : b < 2 ^ 31) : (if nI w = 0 then zz_min (nI a) (nI b) else zz_max (nI a) (nI b)) = nI (zw_op w a b) ∨ 2 ≤ w := by
  rcases Nat.lt_or_ge w 2 with q | q
  · left
    rcases (by omega : w = 0 ∨ w = 1) with rfl | rfl
    · rw [if_pos (show nI 0 = 0 from rfl)]; exact zz_minN ha hb
    · rw [if_neg (show ¬ nI 1 = 0 by decide)]; exact zz_maxN ha hb
  · exact .inr q
theorem zw_op_le {w a b K : Nat} (ha : a ≤ K) (hb : b ≤ K) : zw_op w a b ≤ K := by
  unfold zw_op
  by_cases q : w = 0
  · rw [if_pos q]; omega
  · rw [if_neg q]; omega
/-- bounds -/
theorem zw_D_le {w p q : Nat} {A B : Nat → Nat} {W : Nat → Nat → Nat} (hW : ∀ x y, (x = 12 ∨ zw_in p q A B x) → zw_in p q A B y → W x y ≤ 108) : ∀ r i j x, p - i + (q - j) = r → (x = 12 ∨ zw_in p q A B x) → zw_D (zw_op w) p q A B W i j x ≤ 108 * r := by
  intro r
  induction r with
  | zero =>
    intro i j x hr hx
    rw [zw_De (by omega) (by omega)]
    omega
  | succ r ih =>
    intro i j x hr hx
    by_cases h1 : i < p
    · have e0 : zw_in p q A B (A i) := .inl ⟨i, h1, rfl⟩
      have b0 := ih (i + 1) j (A i) (by omega) (.inr e0)
      have c0 := hW x (A i) hx e0
      by_cases h2 : j < q
      · have e1 : zw_in p q A B (B j) := .inr ⟨j, h2, rfl⟩
        have b1 := ih i (j + 1) (B j) (by omega) (.inr e1)
        have c1 := hW x (B j) hx e1
        rw [zw_Db h1 h2]
        exact zw_op_le (by omega) (by omega)
      · rw [zw_D0 h1 (by omega)]; omega
    · by_cases h2 : j < q
      · have e1 : zw_in p q A B (B j) := .inr ⟨j, h2, rfl⟩
        have b1 := ih i (j + 1) (B j) (by omega) (.inr e1)
        have c1 := hW x (B j) hx e1
        rw [zw_D1 (by omega) h2]; omega
      · omega
