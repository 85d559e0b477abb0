/-! BOTH ENDED IN TIME: THE LATEST MINUTES -/
/-- numbers that may be below nothing, two millions up -/
def zn (a : Nat) : Int32 := nI a - nI 2000000
theorem zn_i {a : Nat} (h : a < 2 ^ 30) : (zn a).toInt = (a : Int) - 2000000 := by
  have e1 : (nI a).toInt = a := nI_toInt (by omega)
  have e2 : (nI 2000000).toInt = ((2000000 : Nat) : Int) := nI_toInt (by omega)
  unfold zn
  rw [Int32.toInt_sub, e1, e2]
  simp only [Int.bmod]
  omega
theorem zn_lt {a b : Nat} (ha : a < 2 ^ 30) (hb : b < 2 ^ 30) : (zn a < zn b) ↔ a < b := by
  rw [Int32.lt_iff_toInt_lt, zn_i ha, zn_i hb]
  omega
theorem zn_le {a b : Nat} (ha : a < 2 ^ 30) (hb : b < 2 ^ 30) : (zn a ≤ zn b) ↔ a ≤ b := by
  rw [Int32.le_iff_toInt_le, zn_i ha, zn_i hb]
  omega
theorem zn_N (x : Nat) : nI x = zn (x + 2000000) := by
  unfold zn
  rw [← nI_add, Int32.add_sub_cancel]
theorem zn_sub {a w : Nat} (h : w ≤ a) : zn a - nI w = zn (a - w) := by
  unfold zn
  rw [← pk_sub h, Int32.sub_eq_add_neg, Int32.sub_eq_add_neg, Int32.sub_eq_add_neg, Int32.sub_eq_add_neg, Int32.add_assoc, Int32.add_assoc, Int32.add_comm (-nI 2000000)]
theorem zn_min {a b : Nat} (ha : a < 2 ^ 30) (hb : b < 2 ^ 30) : zz_min (zn a) (zn b) = zn (min a b) := by
  unfold zz_min
  by_cases q : b < a
  · rw [if_pos ((zn_lt hb ha).mpr q), show min a b = b by omega]
  · rw [if_neg (fun w => q ((zn_lt hb ha).mp w)), show min a b = a by omega]
theorem zn_max {a b : Nat} (ha : a < 2 ^ 30) (hb : b < 2 ^ 30) : zz_max (zn a) (zn b) = zn (max a b) := by
  unfold zz_max
  by_cases q : a < b
  · rw [if_pos ((zn_lt ha hb).mpr q), show max a b = b by omega]
  · rw [if_neg (fun w => q ((zn_lt ha hb).mp w)), show max a b = a by omega]
/-- the latest minute at which all still ends in time -/
def zw_La (x y p q : Nat) (A B : Nat → Nat) (W : Nat → Nat → Nat) : Nat → Nat → Nat → Nat → Nat
  | 0, _, _, _ => 3000000
  | f + 1, i, j, c => max (if i < p then (if i + 1 = p then min (zw_La x y p q A B W f (i + 1) j (A i)) (x + 2000000) else zw_La x y p q A B W f (i + 1) j (A i)) - W c (A i) else 1000000) (if j < q then (if j + 1 = q then min (zw_La x y p q A B W f i (j + 1) (B j)) (y + 2000000) else zw_La x y p q A B W f i (j + 1) (B j)) - W c (B j) else 1000000)
def zw_Lt (x y p q : Nat) (A B : Nat → Nat) (W : Nat → Nat → Nat) (i j c : Nat) : Nat := zw_La x y p q A B W (p - i + (q - j)) i j c
def zw_l0 (x y p q : Nat) (A B : Nat → Nat) (W : Nat → Nat → Nat) (i j c : Nat) : Nat := if i < p then (if i + 1 = p then min (zw_Lt x y p q A B W (i + 1) j (A i)) (x + 2000000) else zw_Lt x y p q A B W (i + 1) j (A i)) - W c (A i) else 1000000
def zw_l1 (x y p q : Nat) (A B : Nat → Nat) (W : Nat → Nat → Nat) (i j c : Nat) : Nat := if j < q then (if j + 1 = q then min (zw_Lt x y p q A B W i (j + 1) (B j)) (y + 2000000) else zw_Lt x y p q A B W i (j + 1) (B j)) - W c (B j) else 1000000
section
variable {x y p q : Nat} {A B : Nat → Nat} {W : Nat → Nat → Nat}
theorem zw_Lt_e {i j : Nat} (h1 : p ≤ i) (h2 : q ≤ j) (c : Nat) : zw_Lt x y p q A B W i j c = 3000000 := by
  unfold zw_Lt
  rw [show p - i + (q - j) = 0 by omega]
  rfl
theorem zw_Lt_s {i j : Nat} (h : i < p ∨ j < q) (c : Nat) : zw_Lt x y p q A B W i j c = max (zw_l0 x y p q A B W i j c) (zw_l1 x y p q A B W i j c) := by
  obtain ⟨f, hf⟩ : ∃ f, p - i + (q - j) = f + 1 := ⟨p - i + (q - j) - 1, by omega⟩
  unfold zw_l0 zw_l1 zw_Lt
  rw [hf]
  show max (if i < p then _ else _) (if j < q then _ else _) = _
  congr 1
  · by_cases h1 : i < p
    · rw [if_pos h1, if_pos h1, show p - (i + 1) + (q - j) = f by omega]
    · rw [if_neg h1, if_neg h1]
  · by_cases h1 : j < q
    · rw [if_pos h1, if_pos h1, show p - i + (q - (j + 1)) = f by omega]
    · rw [if_neg h1, if_neg h1]
theorem zw_Lt_b (hW : ∀ x y, (x = 12 ∨ zw_in p q A B x) → zw_in p q A B y → W x y ≤ 108) : ∀ r i j c, p - i + (q - j) = r → r ≤ 12 → (c = 12 ∨ zw_in p q A B c) → 2000000 ≤ zw_Lt x y p q A B W i j c + 108 * r ∧ zw_Lt x y p q A B W i j c ≤ 3000000 := by
  intro r
  induction r with
  | zero =>
    intro i j c hr _ hc
    rw [zw_Lt_e (by omega) (by omega)]
    omega
  | succ r ih =>
    intro i j c hr h12 hc
    rw [zw_Lt_s (by omega)]
    have a0 : i < p → 2000000 ≤ zw_l0 x y p q A B W i j c + 108 * (r + 1) ∧ zw_l0 x y p q A B W i j c ≤ 3000000 := fun h1 => by
      have i0 : zw_in p q A B (A i) := .inl ⟨i, h1, rfl⟩
      have w0 := hW c (A i) hc i0
      have b0 := ih (i + 1) j (A i) (by omega) (by omega) (.inr i0)
      unfold zw_l0
      rw [if_pos h1]
      split <;> omega
    have a1 : j < q → 2000000 ≤ zw_l1 x y p q A B W i j c + 108 * (r + 1) ∧ zw_l1 x y p q A B W i j c ≤ 3000000 := fun h1 => by
      have i0 : zw_in p q A B (B j) := .inr ⟨j, h1, rfl⟩
      have w0 := hW c (B j) hc i0
      have b0 := ih i (j + 1) (B j) (by omega) (by omega) (.inr i0)
      unfold zw_l1
      rw [if_pos h1]
      split <;> omega
    have n0 : ¬ i < p → zw_l0 x y p q A B W i j c = 1000000 := fun w => if_neg w
    have n1 : ¬ j < q → zw_l1 x y p q A B W i j c = 1000000 := fun w => if_neg w
    by_cases h1 : i < p
    · by_cases h2 : j < q
      · have := a0 h1; have := a1 h2; omega
      · have := a0 h1; have := n1 h2; omega
    · have := n0 h1; have := a1 (by omega); omega
/-- the first way that ends in time -/
def zw_pL (x y p q : Nat) (A B : Nat → Nat) (W : Nat → Nat → Nat) : Nat → Nat → Nat → Nat → Nat → List Nat
  | 0, _, _, _, _ => []
  | f + 1, i, j, c, T => if T + 2000000 ≤ zw_l0 x y p q A B W i j c then 0 :: zw_pL x y p q A B W f (i + 1) j (A i) (T + W c (A i)) else 1 :: zw_pL x y p q A B W f i (j + 1) (B j) (T + W c (B j))
theorem zw_pL_s (f i j c T : Nat) : zw_pL x y p q A B W (f + 1) i j c T = if T + 2000000 ≤ zw_l0 x y p q A B W i j c then 0 :: zw_pL x y p q A B W f (i + 1) j (A i) (T + W c (A i)) else 1 :: zw_pL x y p q A B W f i (j + 1) (B j) (T + W c (B j)) := rfl
theorem zw_pL_len : ∀ f i j c T, (zw_pL x y p q A B W f i j c T).length = f
  | 0, _, _, _, _ => rfl
  | f + 1, i, j, c, T => by
    rw [zw_pL_s]
    split
    · rw [List.length_cons, zw_pL_len f]
    · rw [List.length_cons, zw_pL_len f]
/-- one play next, in time -/
theorem zw_l0_t {i j c T : Nat} (h : i < p) : (T + 2000000 ≤ zw_l0 x y p q A B W i j c) ↔ ((i + 1 = p → T + W c (A i) ≤ x) ∧ T + W c (A i) + 2000000 ≤ zw_Lt x y p q A B W (i + 1) j (A i)) := by
  unfold zw_l0
  rw [if_pos h]
  by_cases e : i + 1 = p
  · rw [if_pos e]; omega
  · rw [if_neg e]; omega
theorem zw_l1_t {i j c T : Nat} (h : j < q) : (T + 2000000 ≤ zw_l1 x y p q A B W i j c) ↔ ((j + 1 = q → T + W c (B j) ≤ y) ∧ T + W c (B j) + 2000000 ≤ zw_Lt x y p q A B W i (j + 1) (B j)) := by
  unfold zw_l1
  rw [if_pos h]
  by_cases e : j + 1 = q
  · rw [if_pos e]; omega
  · rw [if_neg e]; omega
def zw_ok (x y p q : Nat) (A B : Nat → Nat) (W : Nat → Nat → Nat) (i j c T e0 e1 : Nat) : Prop := (i = p → e0 ≤ x) ∧ (j = q → e1 ≤ y) ∧ T + 2000000 ≤ zw_Lt x y p q A B W i j c
theorem zw_g5 (hW : ∀ x y, (x = 12 ∨ zw_in p q A B x) → zw_in p q A B y → W x y ≤ 108) (hx : x ≤ 199) (hy : y ≤ 199) : ∀ r i j c T ln e0 e1 a, p - i + (q - j) = r → i ≤ p → j ≤ q → (c = 12 ∨ zw_in p q A B c) → r ≤ 12 → T ≤ 10000 + 108 * (12 - r) → e0 ≤ T → e1 ≤ T → (∀ d, a.2.2.2.2.1 = some d → (zw_go p q A B W (nI x) (nI y) r i j c T ln e0 e1 a).2.2.2.2.1 = some d) ∧ (a.2.2.2.2.1 = none → zw_ok x y p q A B W i j c T e0 e1 → (zw_go p q A B W (nI x) (nI y) r i j c T ln e0 e1 a).2.2.2.2.1 = some (ln ++ zw_pL x y p q A B W r i j c T)) ∧ (a.2.2.2.2.1 = none → ¬ zw_ok x y p q A B W i j c T e0 e1 → (zw_go p q A B W (nI x) (nI y) r i j c T ln e0 e1 a).2.2.2.2.1 = none) := by
  intro r
  induction r with
  | zero =>
    intro i j c T ln e0 e1 a hr hi hj hc h12 hT h0 h1
    have ip : i = p := by omega
    have jq : j = q := by omega
    have g : (zw_go p q A B W (nI x) (nI y) 0 i j c T ln e0 e1 a).2.2.2.2.1 = (match a.2.2.2.2.1 with
      | some l => some l
      | none => if ¬ nI x < nI e0 ∧ ¬ nI y < nI e1 then some ln else none) := rfl
    refine ⟨fun d hd => by rw [g, hd], fun hd ok => ?_, fun hd ok => ?_⟩
    · rw [g, hd]
      show (if _ then _ else _) = _
      rw [if_pos ⟨nI_nlt (ok.1 ip) (by omega), nI_nlt (ok.2.1 jq) (by omega)⟩]
      exact congrArg some (List.append_nil ln).symm
    · rw [g, hd]
      show (if _ then _ else _) = _
      refine if_neg (fun w => ok ⟨fun _ => ?_, fun _ => ?_, ?_⟩)
      · exact Nat.le_of_not_lt (fun z => w.1 (nI_lt z (by omega)))
      · exact Nat.le_of_not_lt (fun z => w.2 (nI_lt z (by omega)))
      · rw [zw_Lt_e (by omega) (by omega)]; omega
  | succ r ih =>
    intro i j c T ln e0 e1 a hr hi hj hc h12 hT h0 h1
    by_cases c1 : i < p
    · have i0 : zw_in p q A B (A i) := .inl ⟨i, c1, rfl⟩
      have w0 := hW c (A i) hc i0
      have t0 := zw_l0_t (x := x) (y := y) (A := A) (B := B) (W := W) (q := q) (j := j) (c := c) (T := T) c1
      have G0 := ih (i + 1) j (A i) (T + W c (A i)) (ln ++ [0]) (T + W c (A i)) e1 (zw_n2 (zw_n1 a (i + j) T) (A i) (i + j) (T + W c (A i))) (by omega) (by omega) hj (.inr i0) (by omega) (by omega) (by omega) (by omega)
      have k0 : zw_ok x y p q A B W (i + 1) j (A i) (T + W c (A i)) (T + W c (A i)) e1 ↔ ((j = q → e1 ≤ y) ∧ T + 2000000 ≤ zw_l0 x y p q A B W i j c) := by
        rw [t0]
        unfold zw_ok
        exact ⟨fun w => ⟨w.2.1, w.1, w.2.2⟩, fun w => ⟨w.2.1, w.1, w.2.2⟩⟩
      by_cases c2 : j < q
      · have i1 : zw_in p q A B (B j) := .inr ⟨j, c2, rfl⟩
        have w1 := hW c (B j) hc i1
        have t1 := zw_l1_t (x := x) (y := y) (A := A) (B := B) (W := W) (p := p) (i := i) (c := c) (T := T) c2
        rw [zw_gob c1 c2]
        have G1 := ih i (j + 1) (B j) (T + W c (B j)) (ln ++ [1]) e0 (T + W c (B j)) (zw_n2 (zw_go p q A B W (nI x) (nI y) r (i + 1) j (A i) (T + W c (A i)) (ln ++ [0]) (T + W c (A i)) e1 (zw_n2 (zw_n1 a (i + j) T) (A i) (i + j) (T + W c (A i)))) (B j) (i + j) (T + W c (B j))) (by omega) hi (by omega) (.inr i1) (by omega) (by omega) (by omega) (by omega)
        have k1 : zw_ok x y p q A B W i (j + 1) (B j) (T + W c (B j)) e0 (T + W c (B j)) ↔ T + 2000000 ≤ zw_l1 x y p q A B W i j c := by
          rw [t1]
          unfold zw_ok
          exact ⟨fun w => ⟨w.2.1, w.2.2⟩, fun w => ⟨fun z => by omega, w.1, w.2⟩⟩
        have kk : zw_ok x y p q A B W i j c T e0 e1 ↔ (T + 2000000 ≤ zw_l0 x y p q A B W i j c ∨ T + 2000000 ≤ zw_l1 x y p q A B W i j c) := by
          unfold zw_ok
          rw [zw_Lt_s (.inl c1)]
          omega
        have k0' : zw_ok x y p q A B W (i + 1) j (A i) (T + W c (A i)) (T + W c (A i)) e1 ↔ T + 2000000 ≤ zw_l0 x y p q A B W i j c := k0.trans ⟨fun w => w.2, fun w => ⟨fun z => by omega, w⟩⟩
        refine ⟨fun d hd => G1.1 d (G0.1 d hd), fun hd ok => ?_, fun hd ok => ?_⟩
        · rw [zw_pL_s]
          by_cases l : T + 2000000 ≤ zw_l0 x y p q A B W i j c
          · have := G1.1 _ (G0.2.1 hd (k0'.mpr l))
            rw [this, if_pos l, List.append_assoc]; rfl
          · have := G1.2.1 (G0.2.2 hd (fun w => l (k0'.mp w))) (k1.mpr ((kk.mp ok).resolve_left l))
            rw [this, if_neg l, List.append_assoc]; rfl
        · exact G1.2.2 (G0.2.2 hd (fun w => ok (kk.mpr (.inl (k0'.mp w))))) (fun w => ok (kk.mpr (.inr (k1.mp w))))
      · rw [zw_go0 c1 (by omega)]
        have n1 : zw_l1 x y p q A B W i j c = 1000000 := if_neg c2
        have kk : zw_ok x y p q A B W i j c T e0 e1 ↔ ((j = q → e1 ≤ y) ∧ T + 2000000 ≤ zw_l0 x y p q A B W i j c) := by
          unfold zw_ok
          rw [zw_Lt_s (.inl c1), n1]
          constructor
          · intro w; exact ⟨w.2.1, by have := w.2.2; omega⟩
          · intro w; exact ⟨fun z => by omega, w.1, by have := w.2; omega⟩
        refine ⟨G0.1, fun hd ok => ?_, fun hd ok => G0.2.2 hd (fun w => ok (kk.mpr (k0.mp w)))⟩
        rw [zw_pL_s, if_pos (kk.mp ok).2, G0.2.1 hd (k0.mpr (kk.mp ok)), List.append_assoc]; rfl
    · have c2 : j < q := by omega
      have i1 : zw_in p q A B (B j) := .inr ⟨j, c2, rfl⟩
      have w1 := hW c (B j) hc i1
      have t1 := zw_l1_t (x := x) (y := y) (A := A) (B := B) (W := W) (p := p) (i := i) (c := c) (T := T) c2
      rw [zw_go1 (by omega)]
      have G1 := ih i (j + 1) (B j) (T + W c (B j)) (ln ++ [1]) e0 (T + W c (B j)) (zw_n2 (zw_n1 a (i + j) T) (B j) (i + j) (T + W c (B j))) (by omega) hi (by omega) (.inr i1) (by omega) (by omega) (by omega) (by omega)
      have n0 : zw_l0 x y p q A B W i j c = 1000000 := if_neg c1
      have kk : zw_ok x y p q A B W i j c T e0 e1 ↔ zw_ok x y p q A B W i (j + 1) (B j) (T + W c (B j)) e0 (T + W c (B j)) := by
        unfold zw_ok
        rw [zw_Lt_s (.inr c2), n0]
        constructor
        · intro w
          have := t1.mp (by have := w.2.2; omega)
          exact ⟨w.1, this.1, this.2⟩
        · intro w
          have := t1.mpr ⟨w.2.1, w.2.2⟩
          exact ⟨w.1, fun z => by omega, by omega⟩
      refine ⟨G1.1, fun hd ok => ?_, fun hd ok => G1.2.2 hd (fun w => ok (kk.mpr w))⟩
      rw [zw_pL_s, if_neg (by omega), G1.2.1 hd (kk.mp ok), List.append_assoc]; rfl
end
