/-! CUTS: HOW SHORT A WEAVE CAN BE AT ALL -/
/-- a sum over what comes from there on -/
def zc_su (g : Nat → Nat) : Nat → Nat
  | 0 => 0
  | k + 1 => zc_su g k + g k
/-- what is left of a play: from i on, k of them -/
def zc_rs (g A : Nat → Nat) : Nat → Nat → Nat
  | _, 0 => 0
  | i, k + 1 => g (A i) + zc_rs g A (i + 1) k
section
variable {p q : Nat} {A B : Nat → Nat} {W : Nat → Nat → Nat} {mi : Nat → Nat} {lc : Nat}
theorem zc_low (hA : ∀ i i', i < p → i' < p → i ≠ i' → A i ≠ A i') (hB : ∀ i i', i < q → i' < q → i ≠ i' → B i ≠ B i') (hAB : ∀ i j, i < p → j < q → A i ≠ B j) (hW : ∀ x y, zw_in p q A B x → zw_in p q A B y → x ≠ y → lc + mi y ≤ W x y) : ∀ r i j x, p - i + (q - j) = r → ((∃ i', i' < i ∧ i' < p ∧ x = A i') ∨ ∃ j', j' < j ∧ j' < q ∧ x = B j') → zc_rs (fun y => lc + mi y) A i (p - i) + zc_rs (fun y => lc + mi y) B j (q - j) ≤ zw_D min p q A B W i j x := by
  intro r
  induction r with
  | zero =>
    intro i j x hr hx
    rw [show p - i = 0 by omega, show q - j = 0 by omega]
    exact Nat.zero_le _
  | succ r ih =>
    intro i j x hr hx
    have xin : zw_in p q A B x := by
      rcases hx with ⟨i', _, a, b⟩ | ⟨j', _, a, b⟩
      · exact .inl ⟨i', a, b⟩
      · exact .inr ⟨j', a, b⟩
    have s0 : i < p → zc_rs (fun y => lc + mi y) A i (p - i) + zc_rs (fun y => lc + mi y) B j (q - j) ≤ W x (A i) + zw_D min p q A B W (i + 1) j (A i) := fun h1 => by
      have ne : x ≠ A i := by
        rcases hx with ⟨i', a, b, rfl⟩ | ⟨j', a, b, rfl⟩
        · exact hA i' i b h1 (by omega)
        · exact fun w => hAB i j' h1 b w.symm
      clear hx
      have w := hW x (A i) xin (.inl ⟨i, h1, rfl⟩) ne
      have g := ih (i + 1) j (A i) (by omega) (.inl ⟨i, by omega, h1, rfl⟩)
      rw [show p - i = (p - (i + 1)) + 1 by omega]
      show lc + mi (A i) + zc_rs (fun y => lc + mi y) A (i + 1) (p - (i + 1)) + _ ≤ _
      omega
    have s1 : j < q → zc_rs (fun y => lc + mi y) A i (p - i) + zc_rs (fun y => lc + mi y) B j (q - j) ≤ W x (B j) + zw_D min p q A B W i (j + 1) (B j) := fun h1 => by
      have ne : x ≠ B j := by
        rcases hx with ⟨i', a, b, rfl⟩ | ⟨j', a, b, rfl⟩
        · exact hAB i' j b h1
        · exact hB j' j b h1 (by omega)
      clear hx
      have w := hW x (B j) xin (.inr ⟨j, h1, rfl⟩) ne
      have g := ih i (j + 1) (B j) (by omega) (.inr ⟨j, by omega, h1, rfl⟩)
      rw [show q - j = (q - (j + 1)) + 1 by omega]
      show _ + (lc + mi (B j) + zc_rs (fun y => lc + mi y) B (j + 1) (q - (j + 1))) ≤ _
      omega
    clear hx
    by_cases h1 : i < p
    · by_cases h2 : j < q
      · rw [zw_Db h1 h2]
        have := s0 h1; have := s1 h2; omega
      · rw [zw_D0 h1 (by omega)]; exact s0 h1
    · rw [zw_D1 (by omega) (by omega)]; exact s1 (by omega)
theorem zc_low0 (hA : ∀ i i', i < p → i' < p → i ≠ i' → A i ≠ A i') (hB : ∀ i i', i < q → i' < q → i ≠ i' → B i ≠ B i') (hAB : ∀ i j, i < p → j < q → A i ≠ B j) (hW : ∀ x y, zw_in p q A B x → zw_in p q A B y → x ≠ y → lc + mi y ≤ W x y) (hW0 : ∀ y, zw_in p q A B y → mi y ≤ W 12 y) : zc_rs (fun y => lc + mi y) A 0 p + zc_rs (fun y => lc + mi y) B 0 q ≤ zw_D min p q A B W 0 0 12 + lc := by
  have s0 : 0 < p → zc_rs (fun y => lc + mi y) A 0 p + zc_rs (fun y => lc + mi y) B 0 q ≤ W 12 (A 0) + zw_D min p q A B W 1 0 (A 0) + lc := fun h1 => by
    have w := hW0 (A 0) (.inl ⟨0, h1, rfl⟩)
    have g := zc_low hA hB hAB hW _ 1 0 (A 0) rfl (.inl ⟨0, by omega, h1, rfl⟩)
    rw [Nat.sub_zero] at g
    obtain ⟨p', rfl⟩ : ∃ p', p = p' + 1 := ⟨p - 1, by omega⟩
    show lc + mi (A 0) + zc_rs (fun y => lc + mi y) A 1 p' + _ ≤ _
    rw [show p' + 1 - 1 = p' by omega] at g
    omega
  have s1 : 0 < q → zc_rs (fun y => lc + mi y) A 0 p + zc_rs (fun y => lc + mi y) B 0 q ≤ W 12 (B 0) + zw_D min p q A B W 0 1 (B 0) + lc := fun h1 => by
    have w := hW0 (B 0) (.inr ⟨0, h1, rfl⟩)
    have g := zc_low hA hB hAB hW _ 0 1 (B 0) rfl (.inr ⟨0, by omega, h1, rfl⟩)
    rw [Nat.sub_zero] at g
    obtain ⟨q', rfl⟩ : ∃ q', q = q' + 1 := ⟨q - 1, by omega⟩
    show _ + (lc + mi (B 0) + zc_rs (fun y => lc + mi y) B 1 q') ≤ _
    rw [show q' + 1 - 1 = q' by omega] at g
    omega
  by_cases h1 : 0 < p
  · by_cases h2 : 0 < q
    · rw [zw_Db h1 h2]
      have := s0 h1; have := s1 h2
      simp only [Nat.zero_add] at *
      omega
    · rw [zw_D0 h1 (by omega)]; exact s0 h1
  · by_cases h2 : 0 < q
    · rw [zw_D1 (by omega) h2]; exact s1 h2
    · rw [show p = 0 by omega, show q = 0 by omega]
      exact Nat.zero_le _
end
/-- a list's sum is the set's -/
theorem zc_rs_app {g : Nat → Nat} {l : List Nat} {v : Nat} : ∀ k i, i + k = l.length → zc_rs g (fun i => (l ++ [v]).getD i 0) i (k + 1) = zc_rs g (fun i => l.getD i 0) i k + g v := by
  intro k
  induction k with
  | zero =>
    intro i hi
    show g ((l ++ [v]).getD i 0) + 0 = 0 + g v
    rw [zw_getA, if_neg (by omega), if_pos (by omega)]
    omega
  | succ k ih =>
    intro i hi
    show g ((l ++ [v]).getD i 0) + zc_rs g (fun i => (l ++ [v]).getD i 0) (i + 1) (k + 1) = g (l.getD i 0) + zc_rs g (fun i => l.getD i 0) (i + 1) k + g v
    rw [ih (i + 1) (by omega), zw_getA, if_pos (by omega)]
    omega
theorem zc_rs_l (g : Nat → Nat) (P : Nat → Bool) : ∀ k, zc_rs g (fun i => (zw_l P k).getD i 0) 0 (zw_l P k).length = zc_su (fun s => if P s = true then g s else 0) k
  | 0 => rfl
  | k + 1 => by
    have ih := zc_rs_l g P k
    show _ = zc_su (fun s => if P s = true then g s else 0) k + (if P k = true then g k else 0)
    rw [← ih, zw_l_s]
    by_cases c : P k = true
    · rw [if_pos c, if_pos c, List.length_append, List.length_singleton]
      exact zc_rs_app _ 0 (by omega)
    · rw [if_neg c, if_neg c, Nat.add_zero]
theorem zc_su_add (f g : Nat → Nat) : ∀ k, zc_su (fun s => f s + g s) k = zc_su f k + zc_su g k
  | 0 => rfl
  | k + 1 => by
    show zc_su (fun s => f s + g s) k + (f k + g k) = zc_su f k + f k + (zc_su g k + g k)
    rw [zc_su_add f g k]; omega
theorem zc_su_le {f g : Nat → Nat} : ∀ k, (∀ s, s < k → f s ≤ g s) → zc_su f k ≤ zc_su g k
  | 0, _ => Nat.le_refl _
  | k + 1, h => by
    have := zc_su_le k (fun s hs => h s (by omega))
    have := h k (by omega)
    show zc_su f k + f k ≤ zc_su g k + g k
    omega
theorem zc_su_eq {f g : Nat → Nat} (k : Nat) (h : ∀ s, s < k → f s = g s) : zc_su f k = zc_su g k := Nat.le_antisymm (zc_su_le k (fun s hs => Nat.le_of_eq (h s hs))) (zc_su_le k (fun s hs => Nat.le_of_eq (h s hs).symm))
/-- a set's weave takes at least its minutes and the least change between each two -/
theorem zc_bound {n : Nat} (hn : n ≤ 12) {f : Nat → Int32} {set : Int32} (hf : ∀ s, s < n → zi_fd (fun w => f (7 * s + w))) (hs : ∀ s, n ≤ s → s < 32 → bt set s = false) {W : Nat → Nat → Nat} {mi : Nat → Nat} {lc : Nat} (hW : ∀ x y, x < n → y < n → bt set x = true → bt set y = true → x ≠ y → lc + mi y ≤ W x y) (hW0 : ∀ y, y < n → mi y ≤ W 12 y) : zc_su (fun s => if bt set s = true then lc + mi s else 0) 12 ≤ zw_D min (zw_p n f set 0) (zw_p n f set 1) (zw_a n f set 0) (zw_a n f set 1) W 0 0 12 + lc := by
  obtain ⟨_, pq, hA, hB, mA, mB⟩ := zw_HH hn f set
  have inj : ∀ {k : Nat} {X : Nat → Nat}, (∀ i i', i < i' → i' < k → X i < X i') → ∀ i i', i < k → i' < k → i ≠ i' → X i ≠ X i' := fun {k X} m i i' h1 h2 h3 => by
    rcases Nat.lt_or_ge i i' with w | w
    · have := m i i' w h2; omega
    · have := m i' i (by omega) h1; omega
  have b := zc_low0 (W := W) (mi := mi) (lc := lc) (inj mA) (inj mB) (fun i j h1 h2 w => by
    have := (hA i h1).2
    rw [w, (hB j h2).2] at this
    exact absurd this (by decide)) (fun x y hx hy ne => hW x y (zw_in_ok hn hx).1 (zw_in_ok hn hy).1 (zw_in_ok hn hx).2 (zw_in_ok hn hy).2 ne) (fun y hy => hW0 y (zw_in_ok hn hy).1)
  refine Nat.le_trans (Nat.le_of_eq ?_) b
  have e : ∀ pl, zc_rs (fun y => lc + mi y) (zw_a n f set pl) 0 (zw_p n f set pl) = zc_su (fun s => if bt (zh_P n f set (nI pl)) s = true then lc + mi s else 0) 12 := fun pl => zc_rs_l _ _ 12
  rw [e 0, e 1, ← zc_su_add]
  refine zc_su_eq 12 (fun s h12 => ?_)
  by_cases sn : s < n
  · obtain ⟨⟨pl, hpl, ep⟩, _⟩ := hf s sn
    have ep : f (7 * s) = nI pl := ep
    have pb : ∀ k, bt (zh_P n f set (nI k)) s = (bt set s && decide (f (7 * s) = nI k)) := fun k => by
      unfold zh_P
      rw [zu_set_at (by omega) sn]
    rw [pb 0, pb 1, ep]
    rcases (by omega : pl = 0 ∨ pl = 1) with rfl | rfl
    · rw [show decide (nI 0 = nI 0) = true from rfl, show decide (nI 0 = nI 1) = false from rfl, Bool.and_true, Bool.and_false]
      simp
    · rw [show decide (nI 1 = nI 0) = false from rfl, show decide (nI 1 = nI 1) = true from rfl, Bool.and_true, Bool.and_false]
      simp
  · have o : ∀ k, bt (zh_P n f set (nI k)) s = false := fun k => by unfold zh_P; exact zu_set_out (by omega) (by omega)
    rw [hs s (by omega) (by omega), o 0, o 1]
    rfl
