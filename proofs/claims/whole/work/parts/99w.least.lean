/-! WHAT ALL WEAVES MAKE LEAST IS WHAT THE CLASS'S TABLE HOLDS -/
section
variable {p q : Nat} {A B : Nat → Nat} {W : Nat → Nat → Nat} {X Y : Int32} {ah : Nat → Int32}
theorem zw_V0rc (hW : ∀ x y, (x = 12 ∨ zw_in p q A B x) → zw_in p q A B y → W x y ≤ 108) (pq : p + q ≤ 12) {i j : Nat} (hi : i < p) (hj : j ≤ q) : ∃ l, l ≤ 1 ∧ zw_rc i j l ∧ zw_V A B W (i + 1) j 0 = zw_V A B W i j l + W (zw_ca A B i j l) (A i) := by
  have b0 := zw_V_le hW (i + j) i j 0 rfl (by omega) hj (by omega)
  have b1 := zw_V_le hW (i + j) i j 1 rfl (by omega) hj (by omega)
  have w0 := hW _ _ (zw_ca_ok (l := 0) (show i ≤ p by omega) hj) (.inl ⟨i, by omega, rfl⟩ : zw_in p q A B (A i))
  have w1 := hW _ _ (zw_ca_ok (l := 1) (show i ≤ p by omega) hj) (.inl ⟨i, by omega, rfl⟩ : zw_in p q A B (A i))
  have e := zw_V0 (A := A) (B := B) (W := W) i j
  by_cases z : i = 0 ∧ j = 0
  · have c : zw_ca A B i j 0 = zw_ca A B i j 1 := by rw [z.1, z.2]; rfl
    refine ⟨0, by omega, .inl z, ?_⟩
    rw [e, c, z.1, z.2, zw_V00, zw_V00]; omega
  · by_cases y : i = 0
    · have r1 : zw_rc i j 1 := .inr (.inr ⟨rfl, by omega⟩)
      refine ⟨1, by omega, r1, ?_⟩
      have := b1.2 r1
      have v0 : zw_V A B W i j 0 = 1000000 := by
        rw [y, show j = (j - 1) + 1 by omega]; exact zw_V0n _
      rw [e, v0]; omega
    · have r0 : zw_rc i j 0 := .inr (.inl ⟨rfl, by omega⟩)
      by_cases c : zw_V A B W i j 0 + W (zw_ca A B i j 0) (A i) ≤ zw_V A B W i j 1 + W (zw_ca A B i j 1) (A i)
      · exact ⟨0, by omega, r0, by rw [e]; omega⟩
      · have := b0.2 r0
        have r1 : zw_rc i j 1 := .inr (.inr ⟨rfl, Nat.pos_of_ne_zero (fun w => by
          have v1 : zw_V A B W i j 1 = 1000000 := by
            rw [w, show i = (i - 1) + 1 by omega]; exact zw_V1n _
          omega)⟩)
        exact ⟨1, by omega, r1, by rw [e]; omega⟩
theorem zw_V1rc (hW : ∀ x y, (x = 12 ∨ zw_in p q A B x) → zw_in p q A B y → W x y ≤ 108) (pq : p + q ≤ 12) {i j : Nat} (hi : i ≤ p) (hj : j < q) : ∃ l, l ≤ 1 ∧ zw_rc i j l ∧ zw_V A B W i (j + 1) 1 = zw_V A B W i j l + W (zw_ca A B i j l) (B j) := by
  have b0 := zw_V_le hW (i + j) i j 0 rfl hi (by omega) (by omega)
  have b1 := zw_V_le hW (i + j) i j 1 rfl hi (by omega) (by omega)
  have w0 := hW _ _ (zw_ca_ok (l := 0) hi (show j ≤ q by omega)) (.inr ⟨j, by omega, rfl⟩ : zw_in p q A B (B j))
  have w1 := hW _ _ (zw_ca_ok (l := 1) hi (show j ≤ q by omega)) (.inr ⟨j, by omega, rfl⟩ : zw_in p q A B (B j))
  have e := zw_V1 (A := A) (B := B) (W := W) i j
  by_cases z : i = 0 ∧ j = 0
  · have c : zw_ca A B i j 0 = zw_ca A B i j 1 := by rw [z.1, z.2]; rfl
    refine ⟨0, by omega, .inl z, ?_⟩
    rw [e, c, z.1, z.2, zw_V00, zw_V00]; omega
  · by_cases y : j = 0
    · have r0 : zw_rc i j 0 := .inr (.inl ⟨rfl, by omega⟩)
      refine ⟨0, by omega, r0, ?_⟩
      have := b0.2 r0
      have v1 : zw_V A B W i j 1 = 1000000 := by
        rw [y, show i = (i - 1) + 1 by omega]; exact zw_V1n _
      rw [e, v1]; omega
    · have r1 : zw_rc i j 1 := .inr (.inr ⟨rfl, by omega⟩)
      by_cases c : zw_V A B W i j 1 + W (zw_ca A B i j 1) (B j) ≤ zw_V A B W i j 0 + W (zw_ca A B i j 0) (B j)
      · exact ⟨1, by omega, r1, by rw [e]; omega⟩
      · have := b1.2 r1
        have r0 : zw_rc i j 0 := .inr (.inl ⟨rfl, Nat.pos_of_ne_zero (fun w => by
          have v0 : zw_V A B W i j 0 = 1000000 := by
            rw [w, show j = (j - 1) + 1 by omega]; exact zw_V0n _
          omega)⟩)
        exact ⟨0, by omega, r0, by rw [e]; omega⟩
theorem nI_tle {a b : Nat} (ha : a < 2 ^ 31) (hb : b < 2 ^ 31) (h : nI a ≤ nI b) : a ≤ b := Nat.le_of_not_lt (fun w => Int32.not_lt.mpr h (nI_lt w ha))
theorem nI_tlt {a b : Nat} (ha : a < 2 ^ 31) (hb : b < 2 ^ 31) (h : nI a < nI b) : a < b := Nat.lt_of_not_le (fun w => nI_nlt w (by omega) h)
theorem zw_Q0 : zw_Q p q A B W (zw_a0 ah) := ⟨fun k => ⟨1000000, Nat.le_refl _, rfl, .inl rfl⟩, fun s => .inl rfl⟩
/-- how soon so many are played -/
theorem zw_fwE (hW : ∀ x y, (x = 12 ∨ zw_in p q A B x) → zw_in p q A B y → W x y ≤ 108) (pq : p + q ≤ 12) (k : Nat) : (zw_go p q A B W X Y (p + q) 0 0 12 0 [] 0 0 (zw_a0 ah)).2.2.2.2.2.2.2.1 k = nI (zw_mn (zw_sf p q A B W k) (p + 1)) := by
  have lo := (zw_low (X := X) (Y := Y) hW pq (p + q) 0 0 0 0 [] 0 0 (zw_a0 ah) (by omega) (by omega) (by omega) (by omega) (by rw [zw_V00]; omega) (by omega) zw_Q0).1 k
  have up := (zw_up (X := X) (Y := Y) hW pq (zw_a0 ah)).1
  rw [show zw_ca A B 0 0 0 = 12 from rfl] at lo
  obtain ⟨f, hf, ef, cf⟩ := lo
  generalize zw_go p q A B W X Y (p + q) 0 0 12 0 [] 0 0 (zw_a0 ah) = G at *
  rw [ef]
  congr 1
  have mb := zw_mn_b (f := zw_sf p q A B W k) (p + 1)
  have vu : ∀ i j l, i ≤ p → j ≤ q → l ≤ 1 → i + j = k → f ≤ zw_V A B W i j l := fun i j l a b c d => by
    have vb := (zw_V_le hW (i + j) i j l rfl a b c).1
    by_cases r : zw_rc i j l
    · have := up i j l a b c r
      rw [d, ef] at this
      exact nI_tle (by omega) (by omega) this
    · have : zw_V A B W i j l = 1000000 := by
        rcases (by omega : l = 0 ∨ l = 1) with rfl | rfl
        · have i0 : i = 0 := Nat.eq_zero_of_not_pos (fun w => r (.inr (.inl ⟨rfl, w⟩)))
          have j0 : j ≠ 0 := fun w => r (.inl ⟨i0, w⟩)
          rw [i0, show j = (j - 1) + 1 by omega]; exact zw_V0n _
        · have j0 : j = 0 := Nat.eq_zero_of_not_pos (fun w => r (.inr (.inr ⟨rfl, w⟩)))
          have i0 : i ≠ 0 := fun w => r (.inl ⟨w, j0⟩)
          rw [j0, show i = (i - 1) + 1 by omega]; exact zw_V1n _
      omega
  apply Nat.le_antisymm
  · rcases zw_mn_at (f := zw_sf p q A B W k) (p + 1) with e | ⟨i, hi, e⟩
    · rw [e]; exact hf
    · rw [e]
      unfold zw_sf
      by_cases c : i ≤ k ∧ k - i ≤ q
      · rw [if_pos c]
        have := vu i (k - i) 0 (by omega) c.2 (by omega) (by omega)
        have := vu i (k - i) 1 (by omega) c.2 (by omega) (by omega)
        omega
      · rw [if_neg c]; exact hf
  · rcases cf with e | ⟨i, j, l, a, b, c, d, e⟩
    · rw [e]; exact mb
    · have m := zw_mn_le (f := zw_sf p q A B W k) (show i < p + 1 by omega)
      have s : zw_sf p q A B W k i ≤ zw_V A B W i j l := by
        unfold zw_sf
        rw [if_pos ⟨by omega, by omega⟩, show k - i = j by omega]
        rcases (by omega : l = 0 ∨ l = 1) with rfl | rfl <;> omega
      omega
theorem zw_ovc {ov h : Int32} {f : Nat → Nat} {E i : Nat} (hE : E ≤ 12) (hi : i ≤ 12) (hf : ∀ j, j ≤ E → f j ≤ 1296) (up : ∀ j, j ≤ E → zw_l2 (nI (f j)) (nI (i + j)) ov h) (lo : ov = 1000000 ∨ ∃ j T, j ≤ E ∧ f j ≤ T ∧ T ≤ 5000 ∧ ov = nI T ∧ h = nI (i + j)) : ov = nI (zw_mn f (E + 1)) ∧ h = nI (i + zw_ft f (zw_mn f (E + 1)) (E + 1) 0) ∧ zw_mn f (E + 1) ≤ 1296 ∧ (∃ j, j < E + 1 ∧ f j = zw_mn f (E + 1)) ∧ zw_ft f (zw_mn f (E + 1)) (E + 1) 0 ≤ E := by
  rcases lo with e | ⟨j, T, hj, h1, h2, h3, h4⟩
  · exfalso
    have b := hf 0 (by omega)
    rcases up 0 (by omega) with w | ⟨w, _⟩
    · rw [e] at w
      have := nI_tlt (a := 1000000) (by omega) (by omega) w
      omega
    · rw [e] at w
      have := (nI_eq (a := 1000000) (by omega) (by omega)).mp w
      omega
  · have all : ∀ j', j' ≤ E → T ≤ f j' := fun j' hj' => by
      have b := hf j' hj'
      rcases up j' hj' with w | ⟨w, _⟩
      · rw [h3] at w
        have := nI_tlt (by omega) (by omega) w
        omega
      · rw [h3] at w
        have := (nI_eq (by omega) (by omega)).mp w
        omega
    have fT : f j = T := by have := all j hj; omega
    have m : zw_mn f (E + 1) = T := by
      apply Nat.le_antisymm
      · have := zw_mn_le (f := f) (show j < E + 1 by omega); omega
      · rcases zw_mn_at (f := f) (E + 1) with e | ⟨i, hi, e⟩
        · omega
        · have := all i (by omega); omega
    obtain ⟨x1, x2, x3, x4⟩ := zw_ft_ok (f := f) (v := T) (E + 1) 0 ⟨j, by omega, by omega, fT⟩
    have e : zw_ft f T (E + 1) 0 = j := by
      generalize zw_ft f T (E + 1) 0 = t at *
      rcases up t (by omega) with w | ⟨w, w2⟩
      · rw [h3, x3] at w
        have := nI_tlt (by omega) (by omega) w
        omega
      · rw [h4] at w2
        have := nI_tle (by omega) (by omega) w2
        have : ¬ j < t := fun z => x4 j (by omega) z fT
        omega
    rw [m, e]
    have := hf j hj
    exact ⟨h3, h4, by omega, ⟨j, by omega, fT⟩, hj⟩
/-- when a scene is over, and how many came ahead -/
theorem zw_ovE {n : Nat} {f : Nat → Int32} (hH : zw_H n f p q A B) (hW : ∀ x y, (x = 12 ∨ zw_in p q A B x) → zw_in p q A B y → W x y ≤ 108) {G : zw_K} (hG : G = zw_go p q A B W X Y (p + q) 0 0 12 0 [] 0 0 (zw_a0 ah)) {pl i s E : Nat} (hpl : pl ≤ 1) (hi : i < if pl = 0 then p else q) (hs : s = if pl = 0 then A i else B i) (hE : E = if pl = 0 then q else p) : G.2.2.2.2.2.2.2.2.1 s = nI (zw_mn (zw_rw A B W pl (i + 1)) (E + 1)) ∧ G.2.2.2.2.2.2.2.2.2 s = nI (i + zw_ft (zw_rw A B W pl (i + 1)) (zw_mn (zw_rw A B W pl (i + 1)) (E + 1)) (E + 1) 0) ∧ zw_mn (zw_rw A B W pl (i + 1)) (E + 1) ≤ 1296 ∧ (∃ j, j < E + 1 ∧ zw_rw A B W pl (i + 1) j = zw_mn (zw_rw A B W pl (i + 1)) (E + 1)) ∧ zw_ft (zw_rw A B W pl (i + 1)) (zw_mn (zw_rw A B W pl (i + 1)) (E + 1)) (E + 1) 0 ≤ E := by
  obtain ⟨hn, pq, hA, hB, mA, mB⟩ := hH
  have lo := (zw_low (X := X) (Y := Y) hW pq (p + q) 0 0 0 0 [] 0 0 (zw_a0 ah) (by omega) (by omega) (by omega) (by omega) (by rw [zw_V00]; omega) (by omega) zw_Q0).2 s
  have up := (zw_up (X := X) (Y := Y) hW pq (zw_a0 ah)).2
  rw [show zw_ca A B 0 0 0 = 12 from rfl] at lo
  rw [← hG] at lo up
  have rb : ∀ j, j ≤ E → zw_rw A B W pl (i + 1) j ≤ 1296 := fun j hj => (zw_rwb hW pq hpl (by omega) (by rw [← hE]; exact hj)).2 (by omega)
  rcases (by omega : pl = 0 ∨ pl = 1) with rfl | rfl
  · rw [if_pos rfl] at hi hs hE
    subst hs; subst hE
    refine zw_ovc (by omega) (by omega) rb (fun j hj => ?_) ?_
    · obtain ⟨l, a, b, c⟩ := zw_V0rc hW pq hi hj
      have := up.1 i j l hi hj a b
      rw [← c] at this
      exact this
    · rcases lo with e | ⟨i', j, T, a1, a2, a3, a4, a5, a6, a7⟩ | ⟨i', j, T, a1, a2, a3, a4, a5, a6, a7⟩
      · exact .inl e
      · have : i' = i := by
          rcases Nat.lt_trichotomy i' i with w | w | w
          · have := mA i' i w hi; omega
          · exact w
          · have := mA i i' w a1; omega
        subst this
        exact .inr ⟨j, T, a2, a4, a5, a6, a7⟩
      · have := (hA i hi).2
        rw [a3, (hB j a2).2] at this
        exact absurd this (by decide)
  · rw [if_neg (by omega)] at hi hs hE
    subst hs; subst hE
    refine zw_ovc (by omega) (by omega) rb (fun j hj => ?_) ?_
    · obtain ⟨l, a, b, c⟩ := zw_V1rc hW pq hj hi
      have := up.2 j i l hj hi a b
      rw [← c, Nat.add_comm j i] at this
      exact this
    · rcases lo with e | ⟨i', j, T, a1, a2, a3, a4, a5, a6, a7⟩ | ⟨j, i', T, a1, a2, a3, a4, a5, a6, a7⟩
      · exact .inl e
      · have := (hB i hi).2
        rw [a3, (hA i' a1).2] at this
        exact absurd this (by decide)
      · have : i' = i := by
          rcases Nat.lt_trichotomy i' i with w | w | w
          · have := mB i' i w hi; omega
          · exact w
          · have := mB i i' w a2; omega
        subst this
        exact .inr ⟨j, T, a1, a4, a5, a6, by rw [a7, Nat.add_comm]⟩
end
/-! the last one of a set -/
def zw_nlz (x : Int32) : Int32 :=
  let a : Int32 × Int32 := if 0 < x then (if x < 65536 then (x, 31) else ((x.toUInt32 >>> ((16 : Int32).toUInt32 &&& Int32.toUInt32 31)).toInt32, 31 + (-16))) else (1, 32)
  let b : Int32 × Int32 := if a.1 < 256 then a else ((a.1.toUInt32 >>> ((8 : Int32).toUInt32 &&& Int32.toUInt32 31)).toInt32, a.2 + (-8))
  let c : Int32 × Int32 := if b.1 < 16 then b else ((b.1.toUInt32 >>> ((4 : Int32).toUInt32 &&& Int32.toUInt32 31)).toInt32, b.2 + (-4))
  let d : Int32 × Int32 := if c.1 < 4 then c else ((c.1.toUInt32 >>> ((2 : Int32).toUInt32 &&& Int32.toUInt32 31)).toInt32, c.2 + (-2))
  d.2 - ((d.1.toUInt32 >>> ((1 : Int32).toUInt32 &&& Int32.toUInt32 31)).toInt32)
theorem zw_nlzE {N : Nat} (hN : 100000 ≤ N) {x : Int32} (hx : 0 < x) {I : Nat → Nat → Int32} {J : Nat → Nat → Int64} : zf_J6_numberOfLeadingZeros N x I J = some (zw_nlz x, I, J) := by
  obtain ⟨M, rfl⟩ := zu_one N hN
  have e73 : ∀ m y z, zl_J6_numberOfLeadingZeros (M + 1) (m + 1) 73 y z I J = some (z - ((y.toUInt32 >>> ((1 : Int32).toUInt32 &&& Int32.toUInt32 31)).toInt32), I, J) := fun m y z => by rw [zo_J6_numberOfLeadingZeros_73]; rfl
  have e61 : ∀ m (c : Int32 × Int32), zl_J6_numberOfLeadingZeros (M + 1) (m + 2) 61 c.1 c.2 I J = some ((let d : Int32 × Int32 := if c.1 < 4 then c else ((c.1.toUInt32 >>> ((2 : Int32).toUInt32 &&& Int32.toUInt32 31)).toInt32, c.2 + (-2)); d.2 - ((d.1.toUInt32 >>> ((1 : Int32).toUInt32 &&& Int32.toUInt32 31)).toInt32)), I, J) := fun m c => by
    rw [zo_J6_numberOfLeadingZeros_61]
    unfold zb_J6_numberOfLeadingZeros_61
    by_cases q : c.1 < 4
    · rw [if_pos q, if_pos q]; exact e73 _ _ _
    · rw [if_neg q, if_neg q]; exact e73 _ _ _
  have e48 : ∀ m (b : Int32 × Int32), zl_J6_numberOfLeadingZeros (M + 1) (m + 3) 48 b.1 b.2 I J = some ((let c : Int32 × Int32 := if b.1 < 16 then b else ((b.1.toUInt32 >>> ((4 : Int32).toUInt32 &&& Int32.toUInt32 31)).toInt32, b.2 + (-4)); let d : Int32 × Int32 := if c.1 < 4 then c else ((c.1.toUInt32 >>> ((2 : Int32).toUInt32 &&& Int32.toUInt32 31)).toInt32, c.2 + (-2)); d.2 - ((d.1.toUInt32 >>> ((1 : Int32).toUInt32 &&& Int32.toUInt32 31)).toInt32)), I, J) := fun m b => by
    rw [zo_J6_numberOfLeadingZeros_48]
    unfold zb_J6_numberOfLeadingZeros_48
    by_cases q : b.1 < 16
    · rw [if_pos q, if_pos q]; exact e61 _ _
    · rw [if_neg q, if_neg q]; exact e61 _ (_, _)
  have e33 : ∀ m (a : Int32 × Int32), zl_J6_numberOfLeadingZeros (M + 1) (m + 4) 33 a.1 a.2 I J = some ((let b : Int32 × Int32 := if a.1 < 256 then a else ((a.1.toUInt32 >>> ((8 : Int32).toUInt32 &&& Int32.toUInt32 31)).toInt32, a.2 + (-8)); let c : Int32 × Int32 := if b.1 < 16 then b else ((b.1.toUInt32 >>> ((4 : Int32).toUInt32 &&& Int32.toUInt32 31)).toInt32, b.2 + (-4)); let d : Int32 × Int32 := if c.1 < 4 then c else ((c.1.toUInt32 >>> ((2 : Int32).toUInt32 &&& Int32.toUInt32 31)).toInt32, c.2 + (-2)); d.2 - ((d.1.toUInt32 >>> ((1 : Int32).toUInt32 &&& Int32.toUInt32 31)).toInt32)), I, J) := fun m a => by
    rw [zo_J6_numberOfLeadingZeros_33]
    unfold zb_J6_numberOfLeadingZeros_33
    by_cases q : a.1 < 256
    · rw [if_pos q, if_pos q]; exact e48 _ _
    · rw [if_neg q, if_neg q]; exact e48 _ (_, _)
  rw [zo_J6_numberOfLeadingZeros]
  unfold zb_J6_numberOfLeadingZeros_0 zw_nlz
  obtain ⟨M', rfl⟩ : ∃ M', M = M' + 4 := ⟨M - 4, by omega⟩
  rw [if_pos hx, if_pos hx]
  by_cases q : x < 65536
  · rw [if_pos q, if_pos q]; exact e33 _ (_, _)
  · rw [if_neg q, if_neg q]; exact e33 _ (_, _)
theorem zw_nlzd : (List.range 4096).all (fun m => m == 0 || (decide (0 < nI m) && (31 - zw_nlz (nI m) == nI (Nat.log2 m)) && bt (nI m) (Nat.log2 m) && (List.range 12).all (fun s => decide (s ≤ Nat.log2 m) || !bt (nI m) s))) = true := by decide +kernel
theorem zw_top {x : Int32} (h : ∀ i, 12 ≤ i → i < 32 → bt x i = false) {t : Nat} (ht : t < 12) (h1 : bt x t = true) (h2 : ∀ s, t < s → s < 12 → bt x s = false) : 0 < x ∧ 31 - zw_nlz x = nI t := by
  obtain ⟨a, e⟩ := zu_nat h
  generalize x.toBitVec.toNat = m at *
  have := List.all_eq_true.mp zw_nlzd m (List.mem_range.mpr a)
  rw [← e] at this
  have m0 : m ≠ 0 := fun w => by
    rw [e, w, show nI 0 = 0 from rfl, b_0] at h1; cases h1
  simp only [Bool.or_eq_true, Bool.and_eq_true, beq_iff_eq, decide_eq_true_eq, m0, false_or] at this
  obtain ⟨⟨⟨c1, c2⟩, c3⟩, c4⟩ := this
  refine ⟨c1, ?_⟩
  rw [c2]
  congr 1
  have l12 : Nat.log2 m < 12 := Nat.lt_of_not_le (fun w => by
    rcases Nat.lt_or_ge (Nat.log2 m) 32 with z | z
    · rw [h _ w z] at c3; cases c3
    · rw [b_big z] at c3; cases c3)
  rcases Nat.lt_trichotomy (Nat.log2 m) t with w | w | w
  · have := List.all_eq_true.mp c4 t (List.mem_range.mpr ht)
    simp only [Bool.or_eq_true, decide_eq_true_eq, Bool.not_eq_true', h1] at this
    rcases this with z | z
    · omega
    · cases z
  · exact w
  · rw [h2 _ w l12] at c3; cases c3
