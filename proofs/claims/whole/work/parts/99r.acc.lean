/-! WHAT COMES OF ALL WEAVES -/
section
variable {p q : Nat} {A B : Nat → Nat} {W : Nat → Nat → Nat} {X Y : Int32} {r i j x T e0 e1 : Nat} {ln : List Nat} {a : zw_K}
theorem zw_gob (h1 : i < p) (h2 : j < q) : zw_go p q A B W X Y (r + 1) i j x T ln e0 e1 a = zw_go p q A B W X Y r i (j + 1) (B j) (T + W x (B j)) (ln ++ [1]) e0 (T + W x (B j)) (zw_n2 (zw_go p q A B W X Y r (i + 1) j (A i) (T + W x (A i)) (ln ++ [0]) (T + W x (A i)) e1 (zw_n2 (zw_n1 a (i + j) T) (A i) (i + j) (T + W x (A i)))) (B j) (i + j) (T + W x (B j))) := by
  conv => lhs; unfold zw_go
  rw [if_pos h1, if_pos h2]
theorem zw_go0 (h1 : i < p) (h2 : q ≤ j) : zw_go p q A B W X Y (r + 1) i j x T ln e0 e1 a = zw_go p q A B W X Y r (i + 1) j (A i) (T + W x (A i)) (ln ++ [0]) (T + W x (A i)) e1 (zw_n2 (zw_n1 a (i + j) T) (A i) (i + j) (T + W x (A i))) := by
  conv => lhs; unfold zw_go
  rw [if_pos h1, if_neg (by omega)]
theorem zw_go1 (h1 : p ≤ i) : zw_go p q A B W X Y (r + 1) i j x T ln e0 e1 a = zw_go p q A B W X Y r i (j + 1) (B j) (T + W x (B j)) (ln ++ [1]) e0 (T + W x (B j)) (zw_n2 (zw_n1 a (i + j) T) (B j) (i + j) (T + W x (B j))) := by
  conv => lhs; unfold zw_go
  rw [if_neg (by omega)]
end
def zw_cn (p q : Nat) : Nat → Nat → Nat → Nat
  | 0, _, _ => 1
  | r + 1, i, j => if i < p then (if j < q then zw_cn p q r (i + 1) j + zw_cn p q r i (j + 1) else zw_cn p q r (i + 1) j) else zw_cn p q r i (j + 1)
section
variable {p q : Nat} {A B : Nat → Nat} {W : Nat → Nat → Nat} {X Y : Int32}
theorem zw_g1 : ∀ r i j x T ln e0 e1 a, (zw_go p q A B W X Y r i j x T ln e0 e1 a).1 = a.1 + zw_cn p q r i j := by
  intro r
  induction r with
  | zero =>
    intro i j x T ln e0 e1 a
    rfl
  | succ r ih =>
    intro i j x T ln e0 e1 a
    unfold zw_cn
    by_cases h1 : i < p
    · rw [if_pos h1]
      by_cases h2 : j < q
      · rw [zw_gob h1 h2, ih, if_pos h2]
        show (zw_go p q A B W X Y r (i + 1) j (A i) (T + W x (A i)) (ln ++ [0]) (T + W x (A i)) e1 _).1 + _ = _
        rw [ih]
        show a.1 + _ + _ = _
        rw [Nat.add_assoc]
      · rw [zw_go0 h1 (by omega), ih, if_neg h2]
        rfl
    · rw [zw_go1 (by omega), ih, if_neg h1]
      rfl
theorem zw_g2 (hW : ∀ x y, (x = 12 ∨ zw_in p q A B x) → zw_in p q A B y → W x y ≤ 108) : ∀ r i j x T ln e0 e1 a M, p - i + (q - j) = r → (x = 12 ∨ zw_in p q A B x) → r ≤ 12 → T ≤ 100000 + 108 * (12 - r) → M ≤ 1000000 → a.2.1 = nI M → (zw_go p q A B W X Y r i j x T ln e0 e1 a).2.1 = nI (max M (T + zw_D max p q A B W i j x)) := by
  intro r
  induction r with
  | zero =>
    intro i j x T ln e0 e1 a M hr hx hr2 hT hM ha
    rw [zw_De (by omega) (by omega)]
    show zz_max a.2.1 (nI T) = _
    rw [ha, zz_maxN (by omega) (by omega)]
    rfl
  | succ r ih =>
    intro i j x T ln e0 e1 a M hr hx hr2 hT hM ha
    by_cases h1 : i < p
    · have i0 : zw_in p q A B (A i) := .inl ⟨i, h1, rfl⟩
      have w0 := hW x (A i) hx i0
      have b0 := zw_D_le (w := 1) hW _ (i + 1) j (A i) rfl (.inr i0)
      rw [show zw_op 1 = max from rfl] at b0
      have g0 := fun e1 a ha => ih (i + 1) j (A i) (T + W x (A i)) (ln ++ [0]) (T + W x (A i)) e1 a M (by omega) (.inr i0) (by omega) (by omega) hM ha
      by_cases h2 : j < q
      · have i1 : zw_in p q A B (B j) := .inr ⟨j, h2, rfl⟩
        have w1 := hW x (B j) hx i1
        rw [zw_gob h1 h2, ih i (j + 1) (B j) (T + W x (B j)) (ln ++ [1]) e0 (T + W x (B j)) (zw_n2 (zw_go p q A B W X Y r (i + 1) j (A i) (T + W x (A i)) (ln ++ [0]) (T + W x (A i)) e1 (zw_n2 (zw_n1 a (i + j) T) (A i) (i + j) (T + W x (A i)))) (B j) (i + j) (T + W x (B j))) (max M (T + W x (A i) + zw_D max p q A B W (i + 1) j (A i))) (by omega) (.inr i1) (by omega) (by omega) (by omega) (g0 e1 (zw_n2 (zw_n1 a (i + j) T) (A i) (i + j) (T + W x (A i))) ha), zw_Db h1 h2]
        congr 1
        omega
      · rw [zw_go0 h1 (by omega), g0 e1 (zw_n2 (zw_n1 a (i + j) T) (A i) (i + j) (T + W x (A i))) ha, zw_D0 h1 (by omega)]
        congr 1
        omega
    · have h2 : j < q := by omega
      have i1 : zw_in p q A B (B j) := .inr ⟨j, h2, rfl⟩
      have w1 := hW x (B j) hx i1
      rw [zw_go1 (by omega), ih i (j + 1) (B j) (T + W x (B j)) (ln ++ [1]) e0 (T + W x (B j)) (zw_n2 (zw_n1 a (i + j) T) (B j) (i + j) (T + W x (B j))) M (by omega) (.inr i1) (by omega) (by omega) hM ha, zw_D1 (by omega) h2]
      congr 1
      omega
theorem zw_pE_s (p q : Nat) (A B : Nat → Nat) (W : Nat → Nat → Nat) (f i j x : Nat) : zw_pE p q A B W (f + 1) i j x = if i < p ∧ W x (A i) + zw_D min p q A B W (i + 1) j (A i) = zw_D min p q A B W i j x then 0 :: zw_pE p q A B W f (i + 1) j (A i) else 1 :: zw_pE p q A B W f i (j + 1) (B j) := rfl
theorem zw_g3 (hW : ∀ x y, (x = 12 ∨ zw_in p q A B x) → zw_in p q A B y → W x y ≤ 108) : ∀ r i j x T ln e0 e1 a M, p - i + (q - j) = r → (x = 12 ∨ zw_in p q A B x) → r ≤ 12 → T ≤ 100000 + 108 * (12 - r) → M ≤ 1000000 → a.2.2.1 = nI M → (zw_go p q A B W X Y r i j x T ln e0 e1 a).2.2.1 = nI (min M (T + zw_D min p q A B W i j x)) ∧ (zw_go p q A B W X Y r i j x T ln e0 e1 a).2.2.2.1 = if T + zw_D min p q A B W i j x < M then ln ++ zw_pE p q A B W r i j x else a.2.2.2.1 := by
  intro r
  induction r with
  | zero =>
    intro i j x T ln e0 e1 a M hr hx hr2 hT hM ha
    rw [zw_De (by omega) (by omega), Nat.add_zero]
    have e : (nI T < a.2.2.1) ↔ T < M := by rw [ha]; exact ⟨fun w => Nat.lt_of_not_le (fun z => nI_nlt z (by omega) w), fun w => nI_lt w (by omega)⟩
    refine ⟨?_, ?_⟩
    · show (if nI T < a.2.2.1 then nI T else a.2.2.1) = _
      by_cases c : T < M
      · rw [if_pos (e.mpr c), show min M T = T by omega]
      · rw [if_neg (fun w => c (e.mp w)), ha, show min M T = M by omega]
    · show (if nI T < a.2.2.1 then ln else a.2.2.2.1) = _
      by_cases c : T < M
      · rw [if_pos (e.mpr c), if_pos c]
        exact (List.append_nil ln).symm
      · rw [if_neg (fun w => c (e.mp w)), if_neg c]
  | succ r ih =>
    intro i j x T ln e0 e1 a M hr hx hr2 hT hM ha
    by_cases h1 : i < p
    · have i0 : zw_in p q A B (A i) := .inl ⟨i, h1, rfl⟩
      have w0 := hW x (A i) hx i0
      have b0 := zw_D_le (w := 0) hW _ (i + 1) j (A i) rfl (.inr i0)
      rw [show zw_op 0 = min from rfl] at b0
      have g0 := fun e1 a ha => ih (i + 1) j (A i) (T + W x (A i)) (ln ++ [0]) (T + W x (A i)) e1 a M (by omega) (.inr i0) (by omega) (by omega) hM ha
      by_cases h2 : j < q
      · have i1 : zw_in p q A B (B j) := .inr ⟨j, h2, rfl⟩
        have w1 := hW x (B j) hx i1
        obtain ⟨a1, a2⟩ := g0 e1 (zw_n2 (zw_n1 a (i + j) T) (A i) (i + j) (T + W x (A i))) ha
        obtain ⟨c1, c2⟩ := ih i (j + 1) (B j) (T + W x (B j)) (ln ++ [1]) e0 (T + W x (B j)) (zw_n2 (zw_go p q A B W X Y r (i + 1) j (A i) (T + W x (A i)) (ln ++ [0]) (T + W x (A i)) e1 (zw_n2 (zw_n1 a (i + j) T) (A i) (i + j) (T + W x (A i)))) (B j) (i + j) (T + W x (B j))) (min M (T + W x (A i) + zw_D min p q A B W (i + 1) j (A i))) (by omega) (.inr i1) (by omega) (by omega) (by omega) a1
        have D := zw_Db (op := min) (A := A) (B := B) (W := W) (x := x) h1 h2
        rw [zw_gob h1 h2]
        refine ⟨by rw [c1, D]; congr 1; omega, ?_⟩
        rw [c2]
        have a2' : (zw_n2 (zw_go p q A B W X Y r (i + 1) j (A i) (T + W x (A i)) (ln ++ [0]) (T + W x (A i)) e1 (zw_n2 (zw_n1 a (i + j) T) (A i) (i + j) (T + W x (A i)))) (B j) (i + j) (T + W x (B j))).2.2.2.1 = if T + W x (A i) + zw_D min p q A B W (i + 1) j (A i) < M then ln ++ [0] ++ zw_pE p q A B W r (i + 1) j (A i) else a.2.2.2.1 := a2
        rw [a2']
        rw [zw_pE_s]
        generalize zw_D min p q A B W (i + 1) j (A i) = d0 at D ⊢
        generalize zw_D min p q A B W i (j + 1) (B j) = d1 at D ⊢
        by_cases c : W x (A i) + d0 ≤ W x (B j) + d1
        · rw [if_neg (show ¬ T + W x (B j) + d1 < min M (T + W x (A i) + d0) by omega), if_pos (show i < p ∧ W x (A i) + d0 = zw_D min p q A B W i j x from ⟨h1, by rw [D]; omega⟩)]
          by_cases c2 : T + W x (A i) + d0 < M
          · rw [if_pos c2, if_pos (by rw [D]; omega), List.append_assoc]; rfl
          · rw [if_neg c2, if_neg (by rw [D]; omega)]
        · rw [if_neg (show ¬ (i < p ∧ W x (A i) + d0 = zw_D min p q A B W i j x) from fun w => by rw [D] at w; omega)]
          by_cases c2 : T + W x (B j) + d1 < M
          · rw [if_pos (by omega), if_pos (by rw [D]; omega), List.append_assoc]; rfl
          · rw [if_neg (by omega), if_neg (by omega), if_neg (by rw [D]; omega)]
      · have D := zw_D0 (op := min) (A := A) (B := B) (W := W) (x := x) h1 (show q ≤ j by omega)
        obtain ⟨a1, a2⟩ := g0 e1 (zw_n2 (zw_n1 a (i + j) T) (A i) (i + j) (T + W x (A i))) ha
        rw [zw_go0 h1 (by omega)]
        refine ⟨by rw [a1, D]; congr 1; omega, ?_⟩
        rw [a2]
        rw [zw_pE_s]
        rw [if_pos (show i < p ∧ W x (A i) + zw_D min p q A B W (i + 1) j (A i) = zw_D min p q A B W i j x from ⟨h1, by rw [D]⟩), D, List.append_assoc]
        by_cases c : T + W x (A i) + zw_D min p q A B W (i + 1) j (A i) < M
        · rw [if_pos c, if_pos (by omega)]; rfl
        · rw [if_neg c, if_neg (by omega)]; rfl
    · have h2 : j < q := by omega
      have i1 : zw_in p q A B (B j) := .inr ⟨j, h2, rfl⟩
      have w1 := hW x (B j) hx i1
      have D := zw_D1 (op := min) (A := A) (B := B) (W := W) (x := x) (show p ≤ i by omega) h2
      obtain ⟨a1, a2⟩ := ih i (j + 1) (B j) (T + W x (B j)) (ln ++ [1]) e0 (T + W x (B j)) (zw_n2 (zw_n1 a (i + j) T) (B j) (i + j) (T + W x (B j))) M (by omega) (.inr i1) (by omega) (by omega) hM ha
      rw [zw_go1 (by omega)]
      refine ⟨by rw [a1, D]; congr 1; omega, ?_⟩
      rw [a2]
      rw [zw_pE_s]
      rw [if_neg (show ¬ (i < p ∧ W x (A i) + zw_D min p q A B W (i + 1) j (A i) = zw_D min p q A B W i j x) from fun w => h1 w.1), D, List.append_assoc]
      by_cases c : T + W x (B j) + zw_D min p q A B W i (j + 1) (B j) < M
      · rw [if_pos c, if_pos (by omega)]; rfl
      · rw [if_neg c, if_neg (by omega)]; rfl
/-- by the first play -/
theorem zw_g6 (hW : ∀ x y, (x = 12 ∨ zw_in p q A B x) → zw_in p q A B y → W x y ≤ 108) : ∀ r i j x T ln e0 e1 a M M' hd, p - i + (q - j) = r → (x = 12 ∨ zw_in p q A B x) → r ≤ 12 → T ≤ 100000 + 108 * (12 - r) → M ≤ 1000000 → M' ≤ 1000000 → a.2.2.2.2.2.1 = nI M → a.2.2.2.2.2.2.1 = nI M' → ln.head? = some hd → hd ≤ 1 → (zw_go p q A B W X Y r i j x T ln e0 e1 a).2.2.2.2.2.1 = nI (if hd = 0 then min M (T + zw_D min p q A B W i j x) else M) ∧ (zw_go p q A B W X Y r i j x T ln e0 e1 a).2.2.2.2.2.2.1 = nI (if hd = 1 then min M' (T + zw_D min p q A B W i j x) else M') := by
  have hdl : ∀ (ln : List Nat) (hd v : Nat), ln.head? = some hd → (ln ++ [v]).head? = some hd := fun ln hd v h => by
    cases ln with
    | nil => cases h
    | cons z l => exact h
  intro r
  induction r with
  | zero =>
    intro i j x T ln e0 e1 a M M' hd hr hx hr2 hT hM hM' ha hb hh h1
    rw [zw_De (by omega) (by omega), Nat.add_zero]
    refine ⟨?_, ?_⟩
    · show (if ln.head? = some 0 then zz_min a.2.2.2.2.2.1 (nI T) else a.2.2.2.2.2.1) = _
      rw [hh]
      by_cases c : hd = 0
      · rw [if_pos (by rw [c]), if_pos c, ha, zz_minN (by omega) (by omega)]
      · rw [if_neg (fun w => c (Option.some.inj w)), if_neg c, ha]
    · show (if ln.head? = some 1 then zz_min a.2.2.2.2.2.2.1 (nI T) else a.2.2.2.2.2.2.1) = _
      rw [hh]
      by_cases c : hd = 1
      · rw [if_pos (by rw [c]), if_pos c, hb, zz_minN (by omega) (by omega)]
      · rw [if_neg (fun w => c (Option.some.inj w)), if_neg c, hb]
  | succ r ih =>
    intro i j x T ln e0 e1 a M M' hd hr hx hr2 hT hM hM' ha hb hh h01
    by_cases h1 : i < p
    · have i0 : zw_in p q A B (A i) := .inl ⟨i, h1, rfl⟩
      have w0 := hW x (A i) hx i0
      have b0 := zw_D_le (w := 0) hW _ (i + 1) j (A i) rfl (.inr i0)
      rw [show zw_op 0 = min from rfl] at b0
      obtain ⟨a1, a2⟩ := ih (i + 1) j (A i) (T + W x (A i)) (ln ++ [0]) (T + W x (A i)) e1 (zw_n2 (zw_n1 a (i + j) T) (A i) (i + j) (T + W x (A i))) M M' hd (by omega) (.inr i0) (by omega) (by omega) hM hM' ha hb (hdl ln hd 0 hh) h01
      by_cases h2 : j < q
      · have i1 : zw_in p q A B (B j) := .inr ⟨j, h2, rfl⟩
        have w1 := hW x (B j) hx i1
        obtain ⟨c1, c2⟩ := ih i (j + 1) (B j) (T + W x (B j)) (ln ++ [1]) e0 (T + W x (B j)) (zw_n2 (zw_go p q A B W X Y r (i + 1) j (A i) (T + W x (A i)) (ln ++ [0]) (T + W x (A i)) e1 (zw_n2 (zw_n1 a (i + j) T) (A i) (i + j) (T + W x (A i)))) (B j) (i + j) (T + W x (B j))) (if hd = 0 then min M (T + W x (A i) + zw_D min p q A B W (i + 1) j (A i)) else M) (if hd = 1 then min M' (T + W x (A i) + zw_D min p q A B W (i + 1) j (A i)) else M') hd (by omega) (.inr i1) (by omega) (by omega) (by split <;> omega) (by split <;> omega) a1 a2 (hdl ln hd 1 hh) h01
        rw [zw_gob h1 h2, c1, c2, zw_Db h1 h2]
        refine ⟨?_, ?_⟩
        · congr 1
          by_cases c : hd = 0
          · rw [if_pos c, if_pos c, if_pos c]; omega
          · rw [if_neg c, if_neg c, if_neg c]
        · congr 1
          by_cases c : hd = 1
          · rw [if_pos c, if_pos c, if_pos c]; omega
          · rw [if_neg c, if_neg c, if_neg c]
      · rw [zw_go0 h1 (by omega), a1, a2, zw_D0 h1 (by omega), Nat.add_assoc]
        exact ⟨rfl, rfl⟩
    · have h2 : j < q := by omega
      have i1 : zw_in p q A B (B j) := .inr ⟨j, h2, rfl⟩
      have w1 := hW x (B j) hx i1
      obtain ⟨c1, c2⟩ := ih i (j + 1) (B j) (T + W x (B j)) (ln ++ [1]) e0 (T + W x (B j)) (zw_n2 (zw_n1 a (i + j) T) (B j) (i + j) (T + W x (B j))) M M' hd (by omega) (.inr i1) (by omega) (by omega) hM hM' ha hb (hdl ln hd 1 hh) h01
      rw [zw_go1 (by omega), c1, c2, zw_D1 (by omega) h2, Nat.add_assoc]
      exact ⟨rfl, rfl⟩
end
