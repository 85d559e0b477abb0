/-! WEAVES ARE LAID -/
theorem zw_l_mono (P : Nat → Bool) : ∀ k, (∀ i, i < (zw_l P k).length → (zw_l P k).getD i 0 < k) ∧ ∀ i i', i < i' → i' < (zw_l P k).length → (zw_l P k).getD i 0 < (zw_l P k).getD i' 0
  | 0 => ⟨fun i hi => absurd hi (Nat.not_lt_zero i), fun i i' _ hi => absurd hi (Nat.not_lt_zero i')⟩
  | k + 1 => by
    obtain ⟨h1, h2⟩ := zw_l_mono P k
    rw [zw_l_s]
    by_cases c : P k = true
    · rw [if_pos c]
      refine ⟨fun i hi => ?_, fun i i' hii hi => ?_⟩
      · rw [List.length_append, List.length_singleton] at hi
        rw [zw_getA]
        by_cases q : i < (zw_l P k).length
        · rw [if_pos q]; have := h1 i q; omega
        · rw [if_neg q, if_pos (by omega)]; omega
      · rw [List.length_append, List.length_singleton] at hi
        rw [zw_getA, zw_getA, if_pos (show i < (zw_l P k).length by omega)]
        by_cases q : i' < (zw_l P k).length
        · rw [if_pos q]; exact h2 i i' hii q
        · rw [if_neg q, if_pos (by omega)]; exact h1 i (by omega)
    · rw [if_neg c]
      exact ⟨fun i hi => by have := h1 i hi; omega, h2⟩
theorem zw_HH {n : Nat} (hn : n ≤ 12) (f : Nat → Int32) (set : Int32) : zw_H n f (zw_p n f set 0) (zw_p n f set 1) (zw_a n f set 0) (zw_a n f set 1) := ⟨hn, zw_s_two hn f set, fun i hi => ⟨(zw_a_ok hn hi).1, (zw_a_ok hn hi).2.2⟩, fun j hj => ⟨(zw_a_ok hn hj).1, (zw_a_ok hn hj).2.2⟩, fun i i' h1 h2 => (zw_l_mono _ 12).2 i i' h1 h2, fun i i' h1 h2 => (zw_l_mono _ 12).2 i i' h1 h2⟩
/-- all plays' scenes of a set -/
theorem zw_lft_all {n : Nat} (hn : n ≤ 12) {f : Nat → Int32} {set : Int32} (hf : ∀ s, s < n → zi_fd (fun w => f (7 * s + w))) (hs : ∀ s, n ≤ s → s < 32 → bt set s = false) : zw_lft (zw_p n f set 0) (zw_p n f set 1) (zw_a n f set 0) (zw_a n f set 1) 0 0 set := fun s h32 => by
  constructor
  · intro h
    have sn : s < n := Nat.lt_of_not_le (fun w => by rw [hs s w h32] at h; cases h)
    obtain ⟨⟨v, hv, e⟩, _⟩ := hf s sn
    have e : f (7 * s) = nI v := e
    rcases (by omega : v = 0 ∨ v = 1) with rfl | rfl
    · obtain ⟨i, hi, ei⟩ := zw_l_at ((zw_s_mem hn (f := f) (set := set) (pl := 0) (s := s)).mpr ⟨sn, h, e⟩)
      exact .inl ⟨i, by omega, hi, ei.symm⟩
    · obtain ⟨i, hi, ei⟩ := zw_l_at ((zw_s_mem hn (f := f) (set := set) (pl := 1) (s := s)).mpr ⟨sn, h, e⟩)
      exact .inr ⟨i, by omega, hi, ei.symm⟩
  · intro h
    rcases h with ⟨i, _, hi, rfl⟩ | ⟨i, _, hi, rfl⟩
    · exact (zw_a_ok hn hi).2.1
    · exact (zw_a_ok hn hi).2.1
/-- where all begins -/
def zw_a0 (ah : Nat → Int32) : zw_K := (0, 0, 1000000, [], none, 1000000, 1000000, (fun _ => 1000000), (fun _ => 1000000), ah)
theorem zm_l53 {N : Nat} {J : Nat → Nat → Int64} {F : zz_F} {I : Nat → Nat → Int32} : ∀ r k u (X : Nat → Nat → Int32), k + r = 13 → r + 40 < u → (∀ y, y ≠ 68 → X y = I y) → (∀ i, i < k → X 68 i = 1000000) → ∃ X' u', 30 < u' ∧ zl_X12_layWeaves N u 53 (nI k) X J F = zl_X12_layWeaves N u' 76 0 X' J F ∧ (∀ y, y ≠ 68 → X' y = I y) ∧ ∀ i, i < 13 → X' 68 i = 1000000 := by
  intro r
  induction r with
  | zero =>
    intro k u X hk hu hX h68
    obtain ⟨v, rfl⟩ : ∃ v, u = v + 1 := ⟨u - 1, by omega⟩
    obtain rfl : k = 13 := by omega
    refine ⟨X, v, by omega, ?_, hX, h68⟩
    rw [zo_X12_layWeaves_53]
    unfold zb_X12_layWeaves_53
    rw [if_pos (show (12 : Int32) < nI 13 by decide)]
  | succ r ih =>
    intro k u X hk hu hX h68
    obtain ⟨v, rfl⟩ : ∃ v, u = v + 1 := ⟨u - 1, by omega⟩
    rw [zo_X12_layWeaves_53]
    unfold zb_X12_layWeaves_53
    rw [if_neg (show ¬ (12 : Int32) < nI k from nI_nlt (a := 12) (by omega) (by omega)), if_pos (nI_in (show k < 13 by omega) (by omega)), nI_clamp (by omega), nI_1]
    exact ih (k + 1) v _ (by omega) (by omega) (fun y hy => by rw [zu_ux hy, hX y hy]) (fun i hi => by
      by_cases e : i = k
      · rw [e, zz_us]
      · rw [zz_un (fun w => e w.2)]; exact h68 i (by omega))
theorem zm_l76 {N : Nat} {J : Nat → Nat → Int64} {F : zz_F} {I : Nat → Nat → Int32} : ∀ r k u (X : Nat → Nat → Int32), k + r = 12 → r + 10 < u → (∀ y, y ≠ 70 → X y = I y) → (∀ i, i < k → X 70 i = 1000000) → ∃ X' u', 5 < u' ∧ zl_X12_layWeaves N u 76 (nI k) X J F = zl_X12_layWeaves N u' 76 (nI 12) X' J F ∧ (∀ y, y ≠ 70 → X' y = I y) ∧ ∀ i, i < 12 → X' 70 i = 1000000 := by
  intro r
  induction r with
  | zero =>
    intro k u X hk hu hX h68
    obtain rfl : k = 12 := by omega
    exact ⟨X, u, by omega, rfl, hX, h68⟩
  | succ r ih =>
    intro k u X hk hu hX h68
    obtain ⟨v, rfl⟩ : ∃ v, u = v + 1 := ⟨u - 1, by omega⟩
    rw [zo_X12_layWeaves_76]
    unfold zb_X12_layWeaves_76
    rw [if_neg (show ¬ (12 : Int32) ≤ nI k from nI_ge (b := 12) (by omega) (by omega)), if_pos (nI_in (show k < 12 by omega) (by omega)), nI_clamp (by omega), nI_1]
    exact ih (k + 1) v _ (by omega) (by omega) (fun y hy => by rw [zu_ux hy, hX y hy]) (fun i hi => by
      by_cases e : i = k
      · rw [e, zz_us]
      · rw [zz_un (fun w => e w.2)]; exact h68 i (by omega))
theorem zm_lw {N n : Nat} (hN : 100000 ≤ N) {I : Nat → Nat → Int32} {J : Nat → Nat → Int64} {F : zz_F} (hn : n ≤ 12) (hf : ∀ s, s < n → zi_fd (fun w => I 54 (7 * s + w))) (h1 : I 52 1 = nI n) (hl : I 53 13 = -1 ∨ ∃ s, s < n ∧ I 53 13 = nI s) {m : Nat} {t : Nat → Int32} (ru : zr_ru m t I F) : ∃ I' F', zf_X12_layWeaves N I J F = some (0, I', J, F') ∧ zw_R I' (zw_go (zw_p n (I 54) (zh_W n (I 53) 0) 0) (zw_p n (I 54) (zh_W n (I 53) 0) 1) (zw_a n (I 54) (zh_W n (I 53) 0) 0) (zw_a n (I 54) (zh_W n (I 53) 0) 1) (zw_c m t (I 54) (I 53 13)) (I 72 0) (I 72 1) (zw_p n (I 54) (zh_W n (I 53) 0) 0 + zw_p n (I 54) (zh_W n (I 53) 0) 1) 0 0 12 0 [] 0 0 (zw_a0 (I 71))) ∧ zw_fr I I' ∧ zF_re F F' := by
  generalize hI1 : zz_u (zz_u (zz_u (zz_u I 52 28 0) 52 29 1000000) 52 30 0) 52 35 0 = I1
  generalize hI2 : zz_u (zz_u (zz_u (zz_u I1 69 0 1000000) 67 0 0) 69 1 1000000) 67 1 0 = I2
  have o2 : ∀ y, y ≠ 52 → y ≠ 69 → y ≠ 67 → I2 y = I y := fun y a b c => by rw [← hI2, zu_ux c, zu_ux b, zu_ux c, zu_ux b, ← hI1, zu_ux a, zu_ux a, zu_ux a, zu_ux a]
  have i52 : I2 52 = I1 52 := by rw [← hI2, zu_ux (by omega), zu_ux (by omega), zu_ux (by omega), zu_ux (by omega)]
  have o52 : ∀ i, i ≠ 28 → i ≠ 29 → i ≠ 30 → i ≠ 35 → I2 52 i = I 52 i := fun i a b c d => by rw [i52, ← hI1, zz_un (fun w => d w.2), zz_un (fun w => c w.2), zz_un (fun w => b w.2), zz_un (fun w => a w.2)]
  obtain ⟨X1, u1, hu1, e1, x1, x68⟩ := zm_l53 (N := N) (J := J) (F := F) (I := I2) 13 0 (N - 4) I2 (by omega) (by omega) (fun _ _ => rfl) (fun i hi => by omega)
  obtain ⟨X2, u2, hu2, e2, x2, x70⟩ := zm_l76 (N := N) (J := J) (F := F) (I := X1) 12 0 u1 X1 (by omega) (by omega) (fun _ _ => rfl) (fun i hi => by omega)
  have ent : zf_X12_layWeaves N I J F = zl_X12_layWeaves N u2 76 (nI 12) X2 J F := by
    have : zf_X12_layWeaves N I J F = zl_X12_layWeaves N (N - 4) 53 (nI 0) I2 J F := by
      obtain ⟨M, rfl⟩ : ∃ M, N = M + 1 + 1 + 1 + 1 := ⟨N - 4, by omega⟩
      rw [zo_X12_layWeaves]
      unfold zb_X12_layWeaves_0
      rw [hI1, zo_X12_layWeaves_24]
      unfold zb_X12_layWeaves_24
      rw [if_neg (by decide), if_pos (by decide), zo_X12_layWeaves_24]
      unfold zb_X12_layWeaves_24
      rw [if_neg (by decide), if_pos (by decide), zo_X12_layWeaves_24]
      unfold zb_X12_layWeaves_24
      rw [if_pos (by decide), show M + 1 + 1 + 1 + 1 - 4 = M by omega]
      show zl_X12_layWeaves (M + 1 + 1 + 1 + 1) M 53 0 (zz_u (zz_u (zz_u (zz_u I1 69 0 1000000) 67 0 0) 69 1 1000000) 67 1 0) J F = _
      rw [hI2]
      rfl
    exact this.trans (e1.trans e2)
  have ox : ∀ y, y ≠ 52 → y ≠ 69 → y ≠ 67 → y ≠ 68 → y ≠ 70 → X2 y = I y := fun y a b c d e => by rw [x2 y e, x1 y d, o2 y a b c]
  have X52 : ∀ i, i ≠ 28 → i ≠ 29 → i ≠ 30 → i ≠ 35 → X2 52 i = I 52 i := fun i a b c d => by rw [x2 52 (by omega), x1 52 (by omega), o52 i a b c d]
  have X5b : X2 52 = I1 52 := by rw [x2 52 (by omega), x1 52 (by omega), i52]
  have frX : zw_fr I X2 := ⟨fun y a1 a2 a3 a4 a5 a6 a7 a8 a9 a10 => ox y a2 a7 a5 a6 a8, fun i a1 a2 a3 a4 a5 a6 a7 a8 a9 => X52 i a6 a7 a8 a9⟩
  have R : zw_R X2 (zw_a0 (I 71)) := by
    have x69 : X2 69 = I2 69 := by rw [x2 69 (by omega), x1 69 (by omega)]
    refine ⟨by rw [X5b, ← hI1]; rfl, by rw [X5b, ← hI1]; rfl, by rw [X5b, ← hI1]; rfl, fun i hi => absurd hi (Nat.not_lt_zero i), by rw [X5b, ← hI1]; rfl, fun l hl => (by cases hl), by rw [x69, ← hI2]; rfl, by rw [x69, ← hI2]; rfl, fun k hk => by rw [x2 68 (by omega)]; exact x68 k hk, fun s hs => ⟨x70 s hs, by rw [ox 71 (by omega) (by omega) (by omega) (by omega) (by omega)]; rfl⟩⟩
  have X67 : X2 67 = I2 67 := by rw [x2 67 (by omega), x1 67 (by omega)]
  have X54 := ox 54 (by omega) (by omega) (by omega) (by omega) (by omega)
  have X53 := ox 53 (by omega) (by omega) (by omega) (by omega) (by omega)
  have X72 := ox 72 (by omega) (by omega) (by omega) (by omega) (by omega)
  have pq := zw_s_two hn (I 54) (zh_W n (I 53) 0)
  obtain ⟨I', F', g1, g2, g3, g4, -⟩ := zm_gw hN hn (J := J) (m := m) (t := t) (f := I 54) hf (L := I 53 13) (X := I 72 0) (Y := I 72 1) hl (zw_HH hn (I 54) (zh_W n (I 53) 0)) (zw_p n (I 54) (zh_W n (I 53) 0) 0 + zw_p n (I 54) (zh_W n (I 53) 0) 1) 0 0 12 0 [] 0 0 (zw_a0 (I 71)) (zh_W n (I 53) 0) 16 X2 F (by omega) (by omega) (by omega) (.inl rfl) (by omega) rfl (fun v hv => by cases hv) (zw_lft_all hn hf (fun s s1 s2 => zu_set_out (by omega) s1)) (by unfold zw_p; omega) (zr_ru_w ru frX (zF_refl F)) X54 (by rw [X52 1 (by omega) (by omega) (by omega) (by omega)]; exact h1) R (fun k hk => by omega) (by rw [X67, ← hI2]; rfl) (by rw [X67, ← hI2]; rfl) (by rw [X72]) (by rw [X72])
  refine ⟨I', F', ?_, g2, zw_fr_trans frX g3, g4⟩
  rw [ent]
  obtain ⟨v2, rfl⟩ : ∃ v2, u2 = v2 + 1 := ⟨u2 - 1, by omega⟩
  rw [zo_X12_layWeaves_76]
  unfold zb_X12_layWeaves_76
  rw [if_pos (show (12 : Int32) ≤ nI 12 by decide)]
  have w := zm_where hN hn (J := J) (I := X2) (by rw [X52 1 (by omega) (by omega) (by omega) (by omega)]; exact h1) 0
  rw [X53] at w
  refine zu_bd w ?_
  rw [X53]
  unfold zf_X12_goWeaves_
  exact zu_bd g1 rfl
