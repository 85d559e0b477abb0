/-! THE LOOM IS MADE READY -/
def zw_l (P : Nat → Bool) (k : Nat) : List Nat := (List.range k).filter P
theorem zw_l_s (P : Nat → Bool) (k : Nat) : zw_l P (k + 1) = if P k = true then zw_l P k ++ [k] else zw_l P k := by
  unfold zw_l
  rw [List.range_succ, List.filter_append]
  by_cases q : P k = true
  · rw [if_pos q]; simp [q]
  · rw [if_neg q]; simp [q]
theorem zw_l_len (P : Nat → Bool) : ∀ k, (zw_l P k).length ≤ k
  | 0 => Nat.le_refl 0
  | k + 1 => by
    have := zw_l_len P k
    rw [zw_l_s]
    split
    · rw [List.length_append, List.length_singleton]; omega
    · omega
theorem zw_l_two {P Q : Nat → Bool} (h : ∀ s, P s = true → Q s = true → False) : ∀ k, (zw_l P k).length + (zw_l Q k).length ≤ k
  | 0 => Nat.le_refl 0
  | k + 1 => by
    have := zw_l_two h k
    rw [zw_l_s, zw_l_s]
    by_cases a : P k = true
    · rw [if_pos a, if_neg (fun b => h k a b), List.length_append, List.length_singleton]; omega
    · rw [if_neg a]
      split
      · rw [List.length_append, List.length_singleton]; omega
      · omega
theorem zw_l_mem {P : Nat → Bool} {k s : Nat} : s ∈ zw_l P k ↔ s < k ∧ P s = true := by
  unfold zw_l
  rw [List.mem_filter, List.mem_range]
theorem zw_l_get {l : List Nat} {i : Nat} (h : i < l.length) : l.getD i 0 ∈ l := by
  rw [List.getD_eq_getElem?_getD, List.getElem?_eq_getElem h, Option.getD_some]
  exact List.getElem_mem h
theorem zw_l_at {l : List Nat} {s : Nat} (h : s ∈ l) : ∃ i, i < l.length ∧ s = l.getD i 0 := by
  obtain ⟨i, hi, e⟩ := List.mem_iff_getElem.mp h
  exact ⟨i, hi, by rw [List.getD_eq_getElem?_getD, List.getElem?_eq_getElem hi, Option.getD_some, e]⟩
theorem zw_getA {l : List Nat} {k i : Nat} : (l ++ [k]).getD i 0 = if i < l.length then l.getD i 0 else if i = l.length then k else 0 := by
  simp only [List.getD_eq_getElem?_getD]
  by_cases q : i < l.length
  · rw [if_pos q, List.getElem?_append_left q]
  · rw [if_neg q, List.getElem?_append_right (by omega)]
    by_cases e : i = l.length
    · rw [if_pos e, e]; simp
    · rw [if_neg e, List.getElem?_eq_none (by simp; omega)]; rfl
theorem zw_lay_l {N : Nat} {J : Nat → Nat → Int64} {x : Int32} {b : Nat} (hb : b ≤ 13) {I : Nat → Nat → Int32} : ∀ k s u (X : Nat → Nat → Int32), s + k = 12 → k < u → (∀ y, y ≠ 43 → X y = I y) → (∀ i, i < (zw_l (bt x) s).length → X 43 (b + (i + 1)) = nI ((zw_l (bt x) s).getD i 0)) → (∀ i, i ≤ b ∨ b + 13 ≤ i → X 43 i = I 43 i) → ∃ X', zl_X4_layPlay N u 38 0 0 x (nI b) (nI (zw_l (bt x) s).length) (nI s) X J = some (nI (zw_l (bt x) 12).length, X', J) ∧ (∀ y, y ≠ 43 → X' y = I y) ∧ (∀ i, i < (zw_l (bt x) 12).length → X' 43 (b + (i + 1)) = nI ((zw_l (bt x) 12).getD i 0)) ∧ ∀ i, i ≤ b ∨ b + 13 ≤ i → X' 43 i = I 43 i := by
  intro k
  induction k with
  | zero =>
    intro s u X hs hu hX hT hO
    obtain ⟨v, rfl⟩ : ∃ v, u = v + 1 := ⟨u - 1, by omega⟩
    obtain rfl : s = 12 := by omega
    refine ⟨X, ?_, hX, hT, hO⟩
    rw [zo_X4_layPlay_38]
    unfold zb_X4_layPlay_38
    rw [if_pos (show (12 : Int32) ≤ nI 12 by decide)]
  | succ k ih =>
    intro s u X hs hu hX hT hO
    obtain ⟨v, rfl⟩ : ∃ v, u = v + 1 := ⟨u - 1, by omega⟩
    have len := zw_l_len (bt x) s
    rw [zo_X4_layPlay_38]
    unfold zb_X4_layPlay_38
    rw [if_neg (show ¬ (12 : Int32) ≤ nI s from nI_ge (b := 12) (by omega) (by omega))]
    simp only [zu_b1 (show s < 32 by omega)]
    have ls := zw_l_s (bt x) s
    by_cases c : bt x s = true
    · rw [if_pos c] at ls
      rw [if_neg (fun w => w c), nI_1, nI_add, if_pos (nI_in (show b + ((zw_l (bt x) s).length + 1) < 26 by omega) (by omega)), nI_clamp (by omega), nI_1]
      have e : (zw_l (bt x) s).length + 1 = (zw_l (bt x) (s + 1)).length := by rw [ls, List.length_append, List.length_singleton]
      have := ih (s + 1) v (zz_u X 43 (b + ((zw_l (bt x) s).length + 1)) (nI s)) (by omega) (by omega) (fun y hy => by rw [zu_ux hy, hX y hy]) (fun i hi => by
        rw [ls, zw_getA]
        rw [← e] at hi
        by_cases q : i < (zw_l (bt x) s).length
        · rw [if_pos q, zz_un (by omega)]; exact hT i q
        · rw [if_neg q, if_pos (by omega), show i = (zw_l (bt x) s).length by omega, zz_us]) (fun i hi => by
        rw [zz_un (by omega)]; exact hO i hi)
      rw [← e] at this
      exact this
    · rw [if_neg c] at ls
      rw [if_pos c, nI_1]
      have := ih (s + 1) v X (by omega) (by omega) hX (by rw [ls]; exact hT) hO
      rw [ls] at this
      exact this
theorem zw_layP {N : Nat} (hN : 100000 ≤ N) {J : Nat → Nat → Int64} {I : Nat → Nat → Int32} (set : Int32) {pl : Nat} (hp : pl ≤ 1) {x : Int32} (hx : set &&& zv_X9_scenesOf I (nI pl) = x) : ∃ X', zf_X4_layPlay N set (nI pl) I J = some (nI (zw_l (bt x) 12).length, X', J) ∧ (∀ y, y ≠ 43 → X' y = I y) ∧ X' 43 (13 * pl) = nI 12 ∧ (∀ i, i < (zw_l (bt x) 12).length → X' 43 (13 * pl + (i + 1)) = nI ((zw_l (bt x) 12).getD i 0)) ∧ ∀ i, i < 13 * pl ∨ 13 * pl + 13 ≤ i → X' 43 i = I 43 i := by
  obtain ⟨X', g1, g2, g3, g4⟩ := zw_lay_l (N := N) (J := J) (x := x) (b := 13 * pl) (by omega) (I := zz_u I 43 (13 * pl) 12) 12 0 (N - 1) (zz_u I 43 (13 * pl) 12) (by omega) (by omega) (fun _ _ => rfl) (fun i hi => absurd hi (Nat.not_lt_zero i)) (fun _ _ => rfl)
  refine ⟨X', ?_, fun y hy => by rw [g2 y hy, zu_ux hy], by rw [g4 _ (.inl (Nat.le_refl _)), zz_us]; rfl, g3, fun i hi => by rw [g4 i (by omega), zz_un (by omega)]⟩
  obtain ⟨M, rfl⟩ := zu_one N hN
  rw [zo_X4_layPlay]
  unfold zb_X4_layPlay_0
  rw [hx]
  rcases (by omega : pl = 0 ∨ pl = 1) with rfl | rfl
  · rw [if_neg (show ¬ ¬ nI 0 = 0 from fun w => w rfl)]
    exact g1
  · rw [if_pos (show ¬ nI 1 = 0 by decide)]
    exact g1
/-- those of a play in a set, by number -/
def zw_s (n : Nat) (f : Nat → Int32) (set : Int32) (pl : Nat) : List Nat := zw_l (bt (zh_P n f set (nI pl))) 12
theorem zw_s_mem {n : Nat} (hn : n ≤ 12) {f : Nat → Int32} {set : Int32} {pl s : Nat} : s ∈ zw_s n f set pl ↔ s < n ∧ bt set s = true ∧ f (7 * s) = nI pl := by
  unfold zw_s
  rw [zw_l_mem]
  unfold zh_P
  constructor
  · intro ⟨h1, h2⟩
    by_cases q : s < n
    · rw [zu_set_at (by omega) q] at h2
      simp at h2
      exact ⟨q, h2.1, h2.2⟩
    · rw [zu_set_out (by omega) (by omega)] at h2; cases h2
  · intro ⟨h1, h2, h3⟩
    exact ⟨by omega, by rw [zu_set_at (by omega) h1]; simp [h2, h3]⟩
theorem zw_s_two {n : Nat} (hn : n ≤ 12) (f : Nat → Int32) (set : Int32) : (zw_s n f set 0).length + (zw_s n f set 1).length ≤ 12 := by
  unfold zw_s
  refine zw_l_two (fun s h1 h2 => ?_) 12
  rcases Nat.lt_or_ge s 12 with q | q
  · have a := (zw_s_mem hn (f := f) (set := set) (pl := 0) (s := s)).mp (zw_l_mem.mpr ⟨q, h1⟩)
    have b := (zw_s_mem hn (f := f) (set := set) (pl := 1) (s := s)).mp (zw_l_mem.mpr ⟨q, h2⟩)
    have := a.2.2.symm.trans b.2.2
    exact absurd this (by decide)
  · unfold zh_P at h1
    rw [zu_set_out (by omega) (by omega)] at h1; cases h1
def zw_a (n : Nat) (f : Nat → Int32) (set : Int32) (pl : Nat) (i : Nat) : Nat := (zw_s n f set pl).getD i 0
def zw_p (n : Nat) (f : Nat → Int32) (set : Int32) (pl : Nat) : Nat := (zw_s n f set pl).length
theorem zw_a_ok {n : Nat} (hn : n ≤ 12) {f : Nat → Int32} {set : Int32} {pl i : Nat} (h : i < zw_p n f set pl) : zw_a n f set pl i < n ∧ bt set (zw_a n f set pl i) = true ∧ f (7 * zw_a n f set pl i) = nI pl := (zw_s_mem hn).mp (zw_l_get h)
theorem zw_in_ok {n : Nat} (hn : n ≤ 12) {f : Nat → Int32} {set : Int32} {y : Nat} (h : zw_in (zw_p n f set 0) (zw_p n f set 1) (zw_a n f set 0) (zw_a n f set 1) y) : y < n ∧ bt set y = true := by
  rcases h with ⟨i, hi, rfl⟩ | ⟨j, hj, rfl⟩
  · exact ⟨(zw_a_ok hn hi).1, (zw_a_ok hn hi).2.1⟩
  · exact ⟨(zw_a_ok hn hj).1, (zw_a_ok hn hj).2.1⟩
/-- what a step takes -/
def zw_c (m : Nat) (t f : Nat → Int32) (last : Int32) (x y : Nat) : Nat := (if x = 12 then (if last = -1 then 0 else (zq_chg m t (fun w => f (7 * last.toNatClampNeg + w)) (fun w => f (7 * y + w))).toNatClampNeg) else (zq_chg m t (fun w => f (7 * x + w)) (fun w => f (7 * y + w))).toNatClampNeg) + (f (7 * y + 1)).toNatClampNeg
theorem zq_chgN (m : Nat) (t f g : Nat → Int32) : ∃ v, v ≤ 99 ∧ zq_chg m t f g = nI v := by
  unfold zq_chg zz_max
  by_cases q : (0 : Int32) < zz_min 99 (zq_val m t (zq_e f g))
  · rw [if_pos q]
    have h1 : zz_min 99 (zq_val m t (zq_e f g)) ≤ 99 := by
      unfold zz_min
      by_cases w : zq_val m t (zq_e f g) < 99
      · rw [if_pos w]; exact Int32.le_of_lt w
      · rw [if_neg w]; exact Int32.le_refl _
    obtain ⟨j, hj, e⟩ := nI_of2 (n := 99) (M := 99) (by decide) (x := zz_min 99 (zq_val m t (zq_e f g))) (Int32.not_lt.mpr (Int32.le_of_lt q)) h1
    exact ⟨j, hj, e⟩
  · rw [if_neg q]
    exact ⟨0, by omega, rfl⟩
theorem zs_lay {N n : Nat} (hN : 100000 ≤ N) {I : Nat → Nat → Int32} {J : Nat → Nat → Int64} (h : zi_sc n I) (set : Int32) {W : Nat → Nat → Nat} (hW : ∀ x y, (x = 12 ∨ x < n) → y < n → I 42 (x * 12 + y) = nI (W x y) ∧ W x y ≤ 108) : ∃ X, zf_X4_lay N set I J = some (0, X, J) ∧ (∀ y, y ≠ 41 → y ≠ 43 → X y = I y) ∧ (∀ i, i ≠ 6 → i ≠ 7 → X 41 i = I 41 i) ∧ zw_L (zw_p n (I 54) set 0) (zw_p n (I 54) set 1) (zw_a n (I 54) set 0) (zw_a n (I 54) set 1) W X := by
  have hn := h.1
  obtain ⟨X1, g1, g2, g3, g4, g5⟩ := zw_layP hN (J := J) (I := I) set (pl := 0) (by omega) (x := zh_P n (I 54) set (nI 0)) (zs_ofp h _ (by omega))
  have s1 : zi_sc n (zz_u X1 41 6 (nI (zw_l (bt (zh_P n (I 54) set (nI 0))) 12).length)) := zc_sc h (by rw [zu_ux (by omega), g2 5 (by omega)]) (by rw [zu_ux (by omega), g2 6 (by omega)]) (by rw [zu_ux (by omega), g2 7 (by omega)]) (by rw [zu_ux (by omega), g2 52 (by omega)]) (by rw [zu_ux (by omega), g2 54 (by omega)])
  have e54 : zz_u X1 41 6 (nI (zw_l (bt (zh_P n (I 54) set (nI 0))) 12).length) 54 = I 54 := by rw [zu_ux (by omega), g2 54 (by omega)]
  have q1 := zs_ofp s1 set (show 1 ≤ 1 by omega)
  rw [e54] at q1
  obtain ⟨X2, k1, k2, k3, k4, k5⟩ := zw_layP hN (J := J) set (pl := 1) (by omega) (x := zh_P n (I 54) set (nI 1)) q1
  have two := zw_s_two hn (I 54) set
  refine ⟨zz_u X2 41 7 (nI (zw_p n (I 54) set 1)), ?_, fun y y1 y2 => by rw [zu_ux y1, k2 y y2, zu_ux y1, g2 y y2], fun i i1 i2 => by rw [zz_un (fun w => i2 w.2), k2 41 (by omega), zz_un (fun w => i1 w.2), g2 41 (by omega)], two, ?_, zz_us _ _ _ _, ?_, ?_, fun i hi => ⟨?_, ?_⟩, fun j hj => ⟨?_, ?_⟩, fun x y hx hy => ?_⟩
  · obtain ⟨M, rfl⟩ := zu_one N hN
    rw [zo_X4_lay]
    exact zu_bd g1 (zu_bd k1 rfl)
  · rw [zz_un (by omega), k2 41 (by omega), zz_us]; rfl
  · rw [zu_ux (by omega), k5 0 (by omega), zu_ux (by omega)]; exact g3
  · rw [zu_ux (by omega)]; exact k3
  · rw [zu_ux (by omega), k5 (i + 1) (by unfold zw_p at hi; omega), zu_ux (by omega)]
    have := g4 i hi
    rw [show 13 * 0 + (i + 1) = i + 1 by omega] at this
    exact this
  · have := (zw_a_ok hn hi).1; omega
  · rw [zu_ux (by omega)]
    have := k4 j hj
    rw [show 13 * 1 + (j + 1) = 13 + j + 1 by omega] at this
    exact this
  · have := (zw_a_ok hn hj).1; omega
  · have y1 := (zw_in_ok hn hy).1
    rw [zu_ux (by omega), k2 42 (by omega), zu_ux (by omega), g2 42 (by omega)]
    exact hW x y (hx.imp id (fun w => (zw_in_ok hn w).1)) y1
