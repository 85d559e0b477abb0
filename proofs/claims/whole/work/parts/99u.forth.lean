/-! HOW SOON SO MANY CAN BE PLAYED -/
def zw_Fw (A B : Nat → Nat) (W : Nat → Nat → Nat) : Nat → Nat → Nat → Nat → Nat
  | 0, _, _, _ => 0
  | f + 1, i, j, l => if l = 0 then (if i = 0 then 1000000 else min (zw_Fw A B W f (i - 1) j 0 + W (zw_ca A B (i - 1) j 0) (A (i - 1))) (zw_Fw A B W f (i - 1) j 1 + W (zw_ca A B (i - 1) j 1) (A (i - 1)))) else (if j = 0 then 1000000 else min (zw_Fw A B W f i (j - 1) 0 + W (zw_ca A B i (j - 1) 0) (B (j - 1))) (zw_Fw A B W f i (j - 1) 1 + W (zw_ca A B i (j - 1) 1) (B (j - 1))))
def zw_V (A B : Nat → Nat) (W : Nat → Nat → Nat) (i j l : Nat) : Nat := zw_Fw A B W (i + j) i j l
section
variable {p q : Nat} {A B : Nat → Nat} {W : Nat → Nat → Nat}
theorem zw_V00 (l : Nat) : zw_V A B W 0 0 l = 0 := rfl
theorem zw_V0 (i j : Nat) : zw_V A B W (i + 1) j 0 = min (zw_V A B W i j 0 + W (zw_ca A B i j 0) (A i)) (zw_V A B W i j 1 + W (zw_ca A B i j 1) (A i)) := by
  unfold zw_V
  rw [show i + 1 + j = (i + j) + 1 by omega]
  show (if 0 = 0 then _ else _) = _
  rw [if_pos rfl, if_neg (by omega), show i + 1 - 1 = i by omega]
theorem zw_V1 (i j : Nat) : zw_V A B W i (j + 1) 1 = min (zw_V A B W i j 0 + W (zw_ca A B i j 0) (B j)) (zw_V A B W i j 1 + W (zw_ca A B i j 1) (B j)) := by
  unfold zw_V
  rw [show i + (j + 1) = (i + j) + 1 by omega]
  show (if 1 = 0 then _ else _) = _
  rw [if_neg (by omega), if_neg (by omega), show j + 1 - 1 = j by omega]
theorem zw_V0n (j : Nat) : zw_V A B W 0 (j + 1) 0 = 1000000 := by
  unfold zw_V
  rw [show 0 + (j + 1) = j + 1 by omega]
  show (if 0 = 0 then _ else _) = _
  rw [if_pos rfl, if_pos rfl]
theorem zw_V1n (i : Nat) : zw_V A B W (i + 1) 0 1 = 1000000 := by
  unfold zw_V
  rw [show i + 1 + 0 = i + 1 by omega]
  show (if 1 = 0 then _ else _) = _
  rw [if_neg (by omega), if_pos rfl]
/-- it can come there so -/
def zw_rc (i j l : Nat) : Prop := (i = 0 ∧ j = 0) ∨ (l = 0 ∧ 0 < i) ∨ (l = 1 ∧ 0 < j)
theorem zw_V_le (hW : ∀ x y, (x = 12 ∨ zw_in p q A B x) → zw_in p q A B y → W x y ≤ 108) : ∀ k i j l, i + j = k → i ≤ p → j ≤ q → l ≤ 1 → zw_V A B W i j l ≤ 1000000 + 108 * k ∧ (zw_rc i j l → zw_V A B W i j l ≤ 108 * k) := by
  intro k
  induction k with
  | zero =>
    intro i j l hk hi hj hl
    obtain rfl : i = 0 := by omega
    obtain rfl : j = 0 := by omega
    rw [zw_V00]
    exact ⟨by omega, fun _ => by omega⟩
  | succ k ih =>
    intro i j l hk hi hj hl
    rcases (by omega : l = 0 ∨ l = 1) with rfl | rfl
    · cases i with
      | zero =>
        obtain ⟨j', rfl⟩ : ∃ j', j = j' + 1 := ⟨j - 1, by omega⟩
        rw [zw_V0n]
        exact ⟨by omega, fun w => by rcases w with w | w | w <;> omega⟩
      | succ i =>
        have w0 := hW _ _ (zw_ca_ok (l := 0) (show i ≤ p by omega) hj) (.inl ⟨i, by omega, rfl⟩ : zw_in p q A B (A i))
        have w1 := hW _ _ (zw_ca_ok (l := 1) (show i ≤ p by omega) hj) (.inl ⟨i, by omega, rfl⟩ : zw_in p q A B (A i))
        have a0 := ih i j 0 (by omega) (by omega) hj (by omega)
        have a1 := ih i j 1 (by omega) (by omega) hj (by omega)
        rw [zw_V0]
        refine ⟨by omega, fun _ => ?_⟩
        by_cases z : i = 0 ∧ 0 < j
        · have := a1.2 (.inr (.inr ⟨rfl, z.2⟩)); omega
        · have := a0.2 (by
            unfold zw_rc
            omega); omega
    · cases j with
      | zero =>
        obtain ⟨i', rfl⟩ : ∃ i', i = i' + 1 := ⟨i - 1, by omega⟩
        rw [zw_V1n]
        exact ⟨by omega, fun w => by rcases w with w | w | w <;> omega⟩
      | succ j =>
        have w0 := hW _ _ (zw_ca_ok (l := 0) hi (show j ≤ q by omega)) (.inr ⟨j, by omega, rfl⟩ : zw_in p q A B (B j))
        have w1 := hW _ _ (zw_ca_ok (l := 1) hi (show j ≤ q by omega)) (.inr ⟨j, by omega, rfl⟩ : zw_in p q A B (B j))
        have a0 := ih i j 0 (by omega) hi (by omega) (by omega)
        have a1 := ih i j 1 (by omega) hi (by omega) (by omega)
        rw [zw_V1]
        refine ⟨by omega, fun _ => ?_⟩
        by_cases z : j = 0 ∧ 0 < i
        · have := a0.2 (.inr (.inl ⟨rfl, z.2⟩)); omega
        · have := a1.2 (by
            unfold zw_rc
            omega); omega
/-- a road of moves -/
def zw_to (p q : Nat) (A B : Nat → Nat) (W : Nat → Nat → Nat) : List Nat → Nat → Nat → Nat → Nat → Nat → Nat → Nat → Nat → Prop
  | [], i, j, x, T, i', j', x', T' => i' = i ∧ j' = j ∧ x' = x ∧ T' = T
  | m :: ms, i, j, x, T, i', j', x', T' => (m = 0 ∧ i < p ∧ zw_to p q A B W ms (i + 1) j (A i) (T + W x (A i)) i' j' x' T') ∨ (m = 1 ∧ j < q ∧ zw_to p q A B W ms i (j + 1) (B j) (T + W x (B j)) i' j' x' T')
theorem zw_to0 : ∀ (ms : List Nat) {i j x T i' j' x' T' : Nat}, zw_to p q A B W ms i j x T i' j' x' T' → i' < p → zw_to p q A B W (ms ++ [0]) i j x T (i' + 1) j' (A i') (T' + W x' (A i'))
  | [], i, j, x, T, i', j', x', T', h, hp => by
    obtain ⟨rfl, rfl, rfl, rfl⟩ := h
    exact .inl ⟨rfl, hp, rfl, rfl, rfl, rfl⟩
  | m :: ms, i, j, x, T, i', j', x', T', h, hp => by
    rcases h with ⟨a, b, c⟩ | ⟨a, b, c⟩
    · exact .inl ⟨a, b, zw_to0 ms c hp⟩
    · exact .inr ⟨a, b, zw_to0 ms c hp⟩
theorem zw_to1 : ∀ (ms : List Nat) {i j x T i' j' x' T' : Nat}, zw_to p q A B W ms i j x T i' j' x' T' → j' < q → zw_to p q A B W (ms ++ [1]) i j x T i' (j' + 1) (B j') (T' + W x' (B j'))
  | [], i, j, x, T, i', j', x', T', h, hp => by
    obtain ⟨rfl, rfl, rfl, rfl⟩ := h
    exact .inr ⟨rfl, hp, rfl, rfl, rfl, rfl⟩
  | m :: ms, i, j, x, T, i', j', x', T', h, hp => by
    rcases h with ⟨a, b, c⟩ | ⟨a, b, c⟩
    · exact .inl ⟨a, b, zw_to1 ms c hp⟩
    · exact .inr ⟨a, b, zw_to1 ms c hp⟩
/-- the soonest is come by on a road -/
theorem zw_road (hW : ∀ x y, (x = 12 ∨ zw_in p q A B x) → zw_in p q A B y → W x y ≤ 108) (pq : p + q ≤ 12) : ∀ k i j l, i + j = k → i ≤ p → j ≤ q → l ≤ 1 → zw_rc i j l → ∃ ms, zw_to p q A B W ms 0 0 12 0 i j (zw_ca A B i j l) (zw_V A B W i j l) := by
  intro k
  induction k with
  | zero =>
    intro i j l hk hi hj hl _
    obtain rfl : i = 0 := by omega
    obtain rfl : j = 0 := by omega
    refine ⟨[], rfl, rfl, ?_, rfl⟩
    unfold zw_ca
    split <;> rfl
  | succ k ih =>
    intro i j l hk hi hj hl hr
    rcases (by omega : l = 0 ∨ l = 1) with rfl | rfl
    · cases i with
      | zero => rcases hr with w | w | w <;> omega
      | succ i =>
        have b0 := zw_V_le hW k i j 0 (by omega) (by omega) hj (by omega)
        have b1 := zw_V_le hW k i j 1 (by omega) (by omega) hj (by omega)
        have w0 := hW _ _ (zw_ca_ok (l := 0) (show i ≤ p by omega) hj) (.inl ⟨i, by omega, rfl⟩ : zw_in p q A B (A i))
        have w1 := hW _ _ (zw_ca_ok (l := 1) (show i ≤ p by omega) hj) (.inl ⟨i, by omega, rfl⟩ : zw_in p q A B (A i))
        have use : ∀ l', l' ≤ 1 → zw_rc i j l' → zw_V A B W (i + 1) j 0 = zw_V A B W i j l' + W (zw_ca A B i j l') (A i) → ∃ ms, zw_to p q A B W ms 0 0 12 0 (i + 1) j (zw_ca A B (i + 1) j 0) (zw_V A B W (i + 1) j 0) := fun l' h1 h2 h3 => by
          obtain ⟨ms, h⟩ := ih i j l' (by omega) (by omega) hj h1 h2
          exact ⟨ms ++ [0], by rw [h3]; exact zw_to0 ms h (by omega)⟩
        have e := zw_V0 (A := A) (B := B) (W := W) i j
        by_cases z : i = 0 ∧ j = 0
        · have c : zw_ca A B i j 0 = zw_ca A B i j 1 := by rw [z.1, z.2]; rfl
          refine use 0 (by omega) (.inl z) ?_
          rw [e, c, z.1, z.2, zw_V00, zw_V00]; omega
        · by_cases y : i = 0
          · have r1 : zw_rc i j 1 := .inr (.inr ⟨rfl, by omega⟩)
            refine use 1 (by omega) r1 ?_
            have := b1.2 r1
            have v0 : zw_V A B W i j 0 = 1000000 := by
              rw [y, show j = (j - 1) + 1 by omega]; exact zw_V0n _
            rw [e, v0]; omega
          · have r0 : zw_rc i j 0 := .inr (.inl ⟨rfl, by omega⟩)
            by_cases c : zw_V A B W i j 0 + W (zw_ca A B i j 0) (A i) ≤ zw_V A B W i j 1 + W (zw_ca A B i j 1) (A i)
            · exact use 0 (by omega) r0 (by rw [e]; omega)
            · have := b0.2 r0
              have r1 : zw_rc i j 1 := .inr (.inr ⟨rfl, Nat.pos_of_ne_zero (fun w => by
                have v1 : zw_V A B W i j 1 = 1000000 := by
                  rw [w, show i = (i - 1) + 1 by omega]; exact zw_V1n _
                omega)⟩)
              exact use 1 (by omega) r1 (by rw [e]; omega)
    · cases j with
      | zero => rcases hr with w | w | w <;> omega
      | succ j =>
        have b0 := zw_V_le hW k i j 0 (by omega) hi (by omega) (by omega)
        have b1 := zw_V_le hW k i j 1 (by omega) hi (by omega) (by omega)
        have w0 := hW _ _ (zw_ca_ok (l := 0) hi (show j ≤ q by omega)) (.inr ⟨j, by omega, rfl⟩ : zw_in p q A B (B j))
        have w1 := hW _ _ (zw_ca_ok (l := 1) hi (show j ≤ q by omega)) (.inr ⟨j, by omega, rfl⟩ : zw_in p q A B (B j))
        have use : ∀ l', l' ≤ 1 → zw_rc i j l' → zw_V A B W i (j + 1) 1 = zw_V A B W i j l' + W (zw_ca A B i j l') (B j) → ∃ ms, zw_to p q A B W ms 0 0 12 0 i (j + 1) (zw_ca A B i (j + 1) 1) (zw_V A B W i (j + 1) 1) := fun l' h1 h2 h3 => by
          obtain ⟨ms, h⟩ := ih i j l' (by omega) hi (by omega) h1 h2
          exact ⟨ms ++ [1], by rw [h3]; exact zw_to1 ms h (by omega)⟩
        have e := zw_V1 (A := A) (B := B) (W := W) i j
        by_cases z : i = 0 ∧ j = 0
        · have c : zw_ca A B i j 0 = zw_ca A B i j 1 := by rw [z.1, z.2]; rfl
          refine use 0 (by omega) (.inl z) ?_
          rw [e, c, z.1, z.2, zw_V00, zw_V00]; omega
        · by_cases y : j = 0
          · have r0 : zw_rc i j 0 := .inr (.inl ⟨rfl, by omega⟩)
            refine use 0 (by omega) r0 ?_
            have := b0.2 r0
            have v1 : zw_V A B W i j 1 = 1000000 := by
              rw [y, show i = (i - 1) + 1 by omega]; exact zw_V1n _
            rw [e, v1]; omega
          · have r1 : zw_rc i j 1 := .inr (.inr ⟨rfl, by omega⟩)
            by_cases c : zw_V A B W i j 1 + W (zw_ca A B i j 1) (B j) ≤ zw_V A B W i j 0 + W (zw_ca A B i j 0) (B j)
            · exact use 1 (by omega) r1 (by rw [e]; omega)
            · have := b1.2 r1
              have r0 : zw_rc i j 0 := .inr (.inl ⟨rfl, Nat.pos_of_ne_zero (fun w => by
                have v0 : zw_V A B W i j 0 = 1000000 := by
                  rw [w, show j = (j - 1) + 1 by omega]; exact zw_V0n _
                omega)⟩)
              exact use 0 (by omega) r0 (by rw [e]; omega)
end
/-! what all weaves make less -/
def zw_l2 (o h o' h' : Int32) : Prop := o' < o ∨ (o' = o ∧ h' ≤ h)
def zw_Mn (a a' : zw_K) : Prop := (∀ k, a'.2.2.2.2.2.2.2.1 k ≤ a.2.2.2.2.2.2.2.1 k) ∧ ∀ s, zw_l2 (a.2.2.2.2.2.2.2.2.1 s) (a.2.2.2.2.2.2.2.2.2 s) (a'.2.2.2.2.2.2.2.2.1 s) (a'.2.2.2.2.2.2.2.2.2 s)
theorem zw_l2_refl (o h : Int32) : zw_l2 o h o h := .inr ⟨rfl, Int32.le_refl h⟩
theorem zw_l2_trans {o h o' h' o'' h'' : Int32} (a : zw_l2 o h o' h') (b : zw_l2 o' h' o'' h'') : zw_l2 o h o'' h'' := by
  rcases a with a | ⟨a, a2⟩
  · rcases b with b | ⟨b, _⟩
    · exact .inl (Int32.lt_trans b a)
    · exact .inl (by rw [b]; exact a)
  · rcases b with b | ⟨b, b2⟩
    · exact .inl (by rw [← a]; exact b)
    · exact .inr ⟨b.trans a, Int32.le_trans b2 a2⟩
theorem zw_Mn_refl (a : zw_K) : zw_Mn a a := ⟨fun _ => Int32.le_refl _, fun _ => zw_l2_refl _ _⟩
theorem zw_Mn_trans {a b c : zw_K} (h : zw_Mn a b) (h2 : zw_Mn b c) : zw_Mn a c := ⟨fun k => Int32.le_trans (h2.1 k) (h.1 k), fun s => zw_l2_trans (h.2 s) (h2.2 s)⟩
theorem zw_Mn_1 (a : zw_K) (k T : Nat) : zw_Mn a (zw_n1 a k T) ∧ (zw_n1 a k T).2.2.2.2.2.2.2.1 k ≤ nI T := by
  have m1 : ∀ x y : Int32, zz_min x y ≤ x ∧ zz_min x y ≤ y := fun x y => by
    unfold zz_min
    by_cases q : y < x
    · rw [if_pos q]; exact ⟨Int32.le_of_lt q, Int32.le_refl _⟩
    · rw [if_neg q]; exact ⟨Int32.le_refl _, Int32.not_lt.mp q⟩
  refine ⟨⟨fun k' => ?_, fun s => zw_l2_refl _ _⟩, ?_⟩
  · show zh_up a.2.2.2.2.2.2.2.1 k _ k' ≤ _
    unfold zh_up
    by_cases e : k' = k
    · rw [if_pos e, e]; exact (m1 _ _).1
    · rw [if_neg e]; exact Int32.le_refl _
  · show zh_up a.2.2.2.2.2.2.2.1 k _ k ≤ _
    unfold zh_up
    rw [if_pos rfl]
    exact (m1 _ _).2
theorem zw_Mn_2 (a : zw_K) (s k T : Nat) : zw_Mn a (zw_n2 a s k T) ∧ zw_l2 (nI T) (nI k) ((zw_n2 a s k T).2.2.2.2.2.2.2.2.1 s) ((zw_n2 a s k T).2.2.2.2.2.2.2.2.2 s) := by
  have e1 : (zw_n2 a s k T).2.2.2.2.2.2.2.2.1 = @ite _ (zw_nb a s k T) (Classical.propDecidable _) (zh_up a.2.2.2.2.2.2.2.2.1 s (nI T)) a.2.2.2.2.2.2.2.2.1 := rfl
  have e2 : (zw_n2 a s k T).2.2.2.2.2.2.2.2.2 = @ite _ (zw_nb a s k T) (Classical.propDecidable _) (zh_up a.2.2.2.2.2.2.2.2.2 s (nI k)) a.2.2.2.2.2.2.2.2.2 := rfl
  by_cases b : zw_nb a s k T
  · refine ⟨⟨fun _ => Int32.le_refl _, fun s' => ?_⟩, ?_⟩
    · rw [e1, e2, if_pos b, if_pos b]
      unfold zh_up
      by_cases e : s' = s
      · rw [if_pos e, if_pos e, e]
        rcases b with b | ⟨b, b2⟩
        · exact .inl b
        · exact .inr ⟨b, Int32.le_of_lt b2⟩
      · rw [if_neg e, if_neg e]; exact zw_l2_refl _ _
    · rw [e1, e2, if_pos b, if_pos b]
      unfold zh_up
      rw [if_pos rfl, if_pos rfl]
      exact zw_l2_refl _ _
  · refine ⟨⟨fun _ => Int32.le_refl _, fun s' => ?_⟩, ?_⟩
    · rw [e1, e2, if_neg b, if_neg b]; exact zw_l2_refl _ _
    · rw [e1, e2, if_neg b, if_neg b]
      by_cases c : nI T = a.2.2.2.2.2.2.2.2.1 s
      · exact .inr ⟨c.symm, Int32.not_lt.mp (fun d => b (.inr ⟨c, d⟩))⟩
      · rcases Int32.lt_or_eq_of_le (Int32.not_lt.mp (fun d => b (.inl d))) with w | w
        · exact .inl w
        · exact absurd w.symm c
section
variable {p q : Nat} {A B : Nat → Nat} {W : Nat → Nat → Nat} {X Y : Int32}
theorem zw_mono : ∀ r i j x T ln e0 e1 a, zw_Mn a (zw_go p q A B W X Y r i j x T ln e0 e1 a) ∧ (zw_go p q A B W X Y r i j x T ln e0 e1 a).2.2.2.2.2.2.2.1 (i + j) ≤ nI T := by
  intro r
  induction r with
  | zero =>
    intro i j x T ln e0 e1 a
    exact zw_Mn_1 a (i + j) T
  | succ r ih =>
    intro i j x T ln e0 e1 a
    obtain ⟨n1, n2⟩ := zw_Mn_1 a (i + j) T
    have fin : ∀ a', zw_Mn (zw_n1 a (i + j) T) a' → zw_Mn a a' ∧ a'.2.2.2.2.2.2.2.1 (i + j) ≤ nI T := fun a' h => ⟨zw_Mn_trans n1 h, Int32.le_trans (h.1 (i + j)) n2⟩
    by_cases h1 : i < p
    · have c0 := zw_Mn_trans (zw_Mn_2 (zw_n1 a (i + j) T) (A i) (i + j) (T + W x (A i))).1 (ih (i + 1) j (A i) (T + W x (A i)) (ln ++ [0]) (T + W x (A i)) e1 (zw_n2 (zw_n1 a (i + j) T) (A i) (i + j) (T + W x (A i)))).1
      by_cases h2 : j < q
      · rw [zw_gob h1 h2]
        exact fin _ (zw_Mn_trans c0 (zw_Mn_trans (zw_Mn_2 _ (B j) (i + j) (T + W x (B j))).1 (ih _ _ _ _ _ _ _ _).1))
      · rw [zw_go0 h1 (by omega)]
        exact fin _ c0
    · rw [zw_go1 (by omega)]
      exact fin _ (zw_Mn_trans (zw_Mn_2 _ (B j) (i + j) (T + W x (B j))).1 (ih _ _ _ _ _ _ _ _).1)
/-- what holds behind a road's end holds at the end of all -/
theorem zw_anc {Pr : zw_K → Prop} (hM : ∀ a a', zw_Mn a a' → Pr a → Pr a') {i1 j1 x1 T1 : Nat} (hP : ∀ ln e0 e1 a, Pr (zw_go p q A B W X Y (p - i1 + (q - j1)) i1 j1 x1 T1 ln e0 e1 a)) : ∀ ms r i j x T ln e0 e1 a, p - i + (q - j) = r → zw_to p q A B W ms i j x T i1 j1 x1 T1 → Pr (zw_go p q A B W X Y r i j x T ln e0 e1 a) := by
  intro ms
  induction ms with
  | nil =>
    intro r i j x T ln e0 e1 a hr h
    obtain ⟨rfl, rfl, rfl, rfl⟩ := h
    rw [← hr]
    exact hP ln e0 e1 a
  | cons m ms ih =>
    intro r i j x T ln e0 e1 a hr h
    rcases h with ⟨_, h1, h⟩ | ⟨_, h2, h⟩
    · obtain ⟨r', rfl⟩ : ∃ r', r = r' + 1 := ⟨r - 1, by omega⟩
      have g := ih r' (i + 1) j (A i) (T + W x (A i)) (ln ++ [0]) (T + W x (A i)) e1 (zw_n2 (zw_n1 a (i + j) T) (A i) (i + j) (T + W x (A i))) (by omega) h
      by_cases h2 : j < q
      · rw [zw_gob h1 h2]
        exact hM _ _ (zw_Mn_trans (zw_Mn_2 _ (B j) (i + j) (T + W x (B j))).1 (zw_mono _ _ _ _ _ _ _ _ _).1) g
      · rw [zw_go0 h1 (by omega)]; exact g
    · obtain ⟨r', rfl⟩ : ∃ r', r = r' + 1 := ⟨r - 1, by omega⟩
      by_cases h1 : i < p
      · rw [zw_gob h1 h2]
        exact ih r' i (j + 1) (B j) (T + W x (B j)) (ln ++ [1]) e0 (T + W x (B j)) _ (by omega) h
      · rw [zw_go1 (by omega)]
        exact ih r' i (j + 1) (B j) (T + W x (B j)) (ln ++ [1]) e0 (T + W x (B j)) _ (by omega) h
/-- the upper bounds -/
theorem zw_up (hW : ∀ x y, (x = 12 ∨ zw_in p q A B x) → zw_in p q A B y → W x y ≤ 108) (pq : p + q ≤ 12) (a : zw_K) : (∀ i j l, i ≤ p → j ≤ q → l ≤ 1 → zw_rc i j l → (zw_go p q A B W X Y (p + q) 0 0 12 0 [] 0 0 a).2.2.2.2.2.2.2.1 (i + j) ≤ nI (zw_V A B W i j l)) ∧ (∀ i j l, i < p → j ≤ q → l ≤ 1 → zw_rc i j l → zw_l2 (nI (zw_V A B W i j l + W (zw_ca A B i j l) (A i))) (nI (i + j)) ((zw_go p q A B W X Y (p + q) 0 0 12 0 [] 0 0 a).2.2.2.2.2.2.2.2.1 (A i)) ((zw_go p q A B W X Y (p + q) 0 0 12 0 [] 0 0 a).2.2.2.2.2.2.2.2.2 (A i))) ∧ (∀ i j l, i ≤ p → j < q → l ≤ 1 → zw_rc i j l → zw_l2 (nI (zw_V A B W i j l + W (zw_ca A B i j l) (B j))) (nI (i + j)) ((zw_go p q A B W X Y (p + q) 0 0 12 0 [] 0 0 a).2.2.2.2.2.2.2.2.1 (B j)) ((zw_go p q A B W X Y (p + q) 0 0 12 0 [] 0 0 a).2.2.2.2.2.2.2.2.2 (B j))) := by
  refine ⟨fun i j l hi hj hl hr => ?_, fun i j l hi hj hl hr => ?_, fun i j l hi hj hl hr => ?_⟩
  · obtain ⟨ms, h⟩ := zw_road hW pq (i + j) i j l rfl hi hj hl hr
    exact zw_anc (Pr := fun a => a.2.2.2.2.2.2.2.1 (i + j) ≤ nI (zw_V A B W i j l)) (fun a a' m h => Int32.le_trans (m.1 (i + j)) h) (fun ln e0 e1 a => (zw_mono _ _ _ _ _ _ _ _ _).2) ms (p + q) 0 0 12 0 [] 0 0 a (by omega) h
  · obtain ⟨ms, h⟩ := zw_road hW pq (i + j) i j l rfl (by omega) hj hl hr
    refine zw_anc (Pr := fun a => zw_l2 (nI (zw_V A B W i j l + W (zw_ca A B i j l) (A i))) (nI (i + j)) (a.2.2.2.2.2.2.2.2.1 (A i)) (a.2.2.2.2.2.2.2.2.2 (A i))) (fun a a' m h => zw_l2_trans h (m.2 (A i))) (fun ln e0 e1 a => ?_) ms (p + q) 0 0 12 0 [] 0 0 a (by omega) h
    obtain ⟨r', hr'⟩ : ∃ r', p - i + (q - j) = r' + 1 := ⟨p - i + (q - j) - 1, by omega⟩
    rw [hr']
    by_cases h2 : j < q
    · rw [zw_gob hi h2]
      exact zw_l2_trans (zw_Mn_2 _ (A i) (i + j) _).2 ((zw_Mn_trans (zw_mono _ _ _ _ _ _ _ _ _).1 (zw_Mn_trans (zw_Mn_2 _ (B j) (i + j) _).1 (zw_mono _ _ _ _ _ _ _ _ _).1)).2 (A i))
    · rw [zw_go0 hi (by omega)]
      exact zw_l2_trans (zw_Mn_2 _ (A i) (i + j) _).2 ((zw_mono _ _ _ _ _ _ _ _ _).1.2 (A i))
  · obtain ⟨ms, h⟩ := zw_road hW pq (i + j) i j l rfl hi (by omega) hl hr
    refine zw_anc (Pr := fun a => zw_l2 (nI (zw_V A B W i j l + W (zw_ca A B i j l) (B j))) (nI (i + j)) (a.2.2.2.2.2.2.2.2.1 (B j)) (a.2.2.2.2.2.2.2.2.2 (B j))) (fun a a' m h => zw_l2_trans h (m.2 (B j))) (fun ln e0 e1 a => ?_) ms (p + q) 0 0 12 0 [] 0 0 a (by omega) h
    obtain ⟨r', hr'⟩ : ∃ r', p - i + (q - j) = r' + 1 := ⟨p - i + (q - j) - 1, by omega⟩
    rw [hr']
    by_cases h1 : i < p
    · rw [zw_gob h1 hj]
      exact zw_l2_trans (zw_Mn_2 _ (B j) (i + j) _).2 ((zw_mono _ _ _ _ _ _ _ _ _).1.2 (B j))
    · rw [zw_go1 (by omega)]
      exact zw_l2_trans (zw_Mn_2 _ (B j) (i + j) _).2 ((zw_mono _ _ _ _ _ _ _ _ _).1.2 (B j))
/-- the lower bounds -/
def zw_Q (p q : Nat) (A B : Nat → Nat) (W : Nat → Nat → Nat) (a : zw_K) : Prop := (∀ k, ∃ f, f ≤ 1000000 ∧ a.2.2.2.2.2.2.2.1 k = nI f ∧ (f = 1000000 ∨ ∃ i j l, i ≤ p ∧ j ≤ q ∧ l ≤ 1 ∧ i + j = k ∧ zw_V A B W i j l ≤ f)) ∧ ∀ s, a.2.2.2.2.2.2.2.2.1 s = 1000000 ∨ (∃ i j T, i < p ∧ j ≤ q ∧ s = A i ∧ zw_V A B W (i + 1) j 0 ≤ T ∧ T ≤ 5000 ∧ a.2.2.2.2.2.2.2.2.1 s = nI T ∧ a.2.2.2.2.2.2.2.2.2 s = nI (i + j)) ∨ (∃ i j T, i ≤ p ∧ j < q ∧ s = B j ∧ zw_V A B W i (j + 1) 1 ≤ T ∧ T ≤ 5000 ∧ a.2.2.2.2.2.2.2.2.1 s = nI T ∧ a.2.2.2.2.2.2.2.2.2 s = nI (i + j))
theorem zw_Q1 {a : zw_K} (h : zw_Q p q A B W a) {i j l T : Nat} (hi : i ≤ p) (hj : j ≤ q) (hl : l ≤ 1) (hT : zw_V A B W i j l ≤ T) (hT2 : T ≤ 5000) : zw_Q p q A B W (zw_n1 a (i + j) T) := by
  refine ⟨fun k => ?_, h.2⟩
  obtain ⟨f, hf, ef, cf⟩ := h.1 k
  by_cases e : k = i + j
  · subst e
    refine ⟨min f T, by omega, ?_, ?_⟩
    · show zh_up a.2.2.2.2.2.2.2.1 (i + j) _ (i + j) = _
      unfold zh_up
      rw [if_pos rfl, ef, zz_minN (by omega) (by omega)]
    · by_cases c : f ≤ T
      · rw [show min f T = f by omega]; exact cf
      · rw [show min f T = T by omega]
        exact .inr ⟨i, j, l, hi, hj, hl, rfl, hT⟩
  · refine ⟨f, hf, ?_, cf⟩
    show zh_up a.2.2.2.2.2.2.2.1 (i + j) _ k = _
    unfold zh_up
    rw [if_neg e, ef]
theorem zw_Q2 {a : zw_K} (h : zw_Q p q A B W a) {s k T : Nat} (hk : (∃ i j, i < p ∧ j ≤ q ∧ s = A i ∧ k = i + j ∧ zw_V A B W (i + 1) j 0 ≤ T) ∨ ∃ i j, i ≤ p ∧ j < q ∧ s = B j ∧ k = i + j ∧ zw_V A B W i (j + 1) 1 ≤ T) (hT2 : T ≤ 5000) : zw_Q p q A B W (zw_n2 a s k T) := by
  refine ⟨h.1, fun s' => ?_⟩
  have e1 : (zw_n2 a s k T).2.2.2.2.2.2.2.2.1 = @ite _ (zw_nb a s k T) (Classical.propDecidable _) (zh_up a.2.2.2.2.2.2.2.2.1 s (nI T)) a.2.2.2.2.2.2.2.2.1 := rfl
  have e2 : (zw_n2 a s k T).2.2.2.2.2.2.2.2.2 = @ite _ (zw_nb a s k T) (Classical.propDecidable _) (zh_up a.2.2.2.2.2.2.2.2.2 s (nI k)) a.2.2.2.2.2.2.2.2.2 := rfl
  rw [e1, e2]
  by_cases b : zw_nb a s k T
  · rw [if_pos b, if_pos b]
    unfold zh_up
    by_cases e : s' = s
    · rw [if_pos e, if_pos e]
      rcases hk with ⟨i, j, a1, a2, a3, a4, a5⟩ | ⟨i, j, a1, a2, a3, a4, a5⟩
      · exact .inr (.inl ⟨i, j, T, a1, a2, by rw [e, a3], a5, hT2, rfl, by rw [a4]⟩)
      · exact .inr (.inr ⟨i, j, T, a1, a2, by rw [e, a3], a5, hT2, rfl, by rw [a4]⟩)
    · rw [if_neg e, if_neg e]; exact h.2 s'
  · rw [if_neg b, if_neg b]; exact h.2 s'
theorem zw_low (hW : ∀ x y, (x = 12 ∨ zw_in p q A B x) → zw_in p q A B y → W x y ≤ 108) (pq : p + q ≤ 12) : ∀ r i j l T ln e0 e1 a, p - i + (q - j) = r → i ≤ p → j ≤ q → l ≤ 1 → zw_V A B W i j l ≤ T → T ≤ 108 * (i + j) → zw_Q p q A B W a → zw_Q p q A B W (zw_go p q A B W X Y r i j (zw_ca A B i j l) T ln e0 e1 a) := by
  intro r
  induction r with
  | zero =>
    intro i j l T ln e0 e1 a hr hi hj hl hV hT hQ
    exact zw_Q1 hQ hi hj hl hV (by omega)
  | succ r ih =>
    intro i j l T ln e0 e1 a hr hi hj hl hV hT hQ
    have q1 := zw_Q1 hQ hi hj hl hV (by omega)
    have ok := zw_ca_ok (p := p) (q := q) (A := A) (B := B) (l := l) hi hj
    have c0 : ∀ a, i < p → zw_Q p q A B W a → zw_Q p q A B W (zw_go p q A B W X Y r (i + 1) j (A i) (T + W (zw_ca A B i j l) (A i)) (ln ++ [0]) (T + W (zw_ca A B i j l) (A i)) e1 (zw_n2 a (A i) (i + j) (T + W (zw_ca A B i j l) (A i)))) := fun a h1 hq => by
      have w := hW _ _ ok (.inl ⟨i, h1, rfl⟩ : zw_in p q A B (A i))
      have v : zw_V A B W (i + 1) j 0 ≤ T + W (zw_ca A B i j l) (A i) := by
        rw [zw_V0]
        rcases (by omega : l = 0 ∨ l = 1) with rfl | rfl <;> omega
      exact ih (i + 1) j 0 _ _ _ _ _ (by omega) (by omega) hj (by omega) v (by omega) (zw_Q2 hq (.inl ⟨i, j, h1, hj, rfl, rfl, v⟩) (by omega))
    have c1 : ∀ a, j < q → zw_Q p q A B W a → zw_Q p q A B W (zw_go p q A B W X Y r i (j + 1) (B j) (T + W (zw_ca A B i j l) (B j)) (ln ++ [1]) e0 (T + W (zw_ca A B i j l) (B j)) (zw_n2 a (B j) (i + j) (T + W (zw_ca A B i j l) (B j)))) := fun a h1 hq => by
      have w := hW _ _ ok (.inr ⟨j, h1, rfl⟩ : zw_in p q A B (B j))
      have v : zw_V A B W i (j + 1) 1 ≤ T + W (zw_ca A B i j l) (B j) := by
        rw [zw_V1]
        rcases (by omega : l = 0 ∨ l = 1) with rfl | rfl <;> omega
      exact ih i (j + 1) 1 _ _ _ _ _ (by omega) hi (by omega) (by omega) v (by omega) (zw_Q2 hq (.inr ⟨i, j, hi, h1, rfl, rfl, v⟩) (by omega))
    by_cases h1 : i < p
    · by_cases h2 : j < q
      · rw [zw_gob h1 h2]
        exact c1 _ h2 (c0 _ h1 q1)
      · rw [zw_go0 h1 (by omega)]
        exact c0 _ h1 q1
    · rw [zw_go1 (by omega)]
      exact c1 _ (by omega) q1
end
