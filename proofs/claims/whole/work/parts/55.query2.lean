/-! FACTS: what clashes, what is known then, what it brings -/
def zh_cl (f5 k : Int32) : Bool := decide (¬ f5 = -1) && !decide ((k >>> (f5 &&& 31)) &&& 1 = 1)
def zh_kb (f4 k : Int32) : Int32 := if f4 = -1 then k else k ||| ((1 : Int32) <<< (f4 &&& 31))
def zh_br (f5 f6 k : Int32) : Int32 := if zh_cl f5 k = true then f6 / 2 else f6
theorem zm_clash {I : Nat → Nat → Int32} {s : Nat} (hs : s < 12) (k : Int32) : zv_X12_doesClash I k (nI s) = if zh_cl (I 54 (7 * s + 5)) k = true then 1 else 0 := by
  unfold zv_X12_doesClash zh_cl zv_X12_has
  rw [zu_f5 hs]
  by_cases a : I 54 (7 * s + 5) = -1
  · simp [a]
  · by_cases b : (k >>> (I 54 (7 * s + 5) &&& 31)) &&& 1 = 1
    · simp [a, b]
    · simp [a, b]
theorem zm_kb {I : Nat → Nat → Int32} {s : Nat} (hs : s < 12) (k : Int32) : zv_X12_knownBy I k (nI s) = zh_kb (I 54 (7 * s + 4)) k := by
  unfold zv_X12_knownBy zh_kb
  rw [zu_f4 hs]
  by_cases a : I 54 (7 * s + 4) = -1
  · simp [a]
  · simp [a]
theorem zm_br {I : Nat → Nat → Int32} {s : Nat} (hs : s < 12) (k : Int32) : zv_X12_brings I k (nI s) = zh_br (I 54 (7 * s + 5)) (I 54 (7 * s + 6)) k := by
  unfold zv_X12_brings zh_br
  rw [zm_clash hs, zu_f6 hs]
  cases zh_cl (I 54 (7 * s + 5)) k <;> simp
theorem zs_foll {n : Nat} {I : Nat → Nat → Int32} (h : zi_sc n I) {s : Nat} (hs : s < n) (k : Int32) : zz_follows I (nI s) k = if zh_cl (I 54 (7 * s + 5)) k = true then 0 else 1 := by
  have hn := h.1
  unfold zz_follows zh_cl
  rw [zu_cf5 (by omega), h.2.2.2.1 _ (by omega)]
  obtain ⟨-, -, -, -, -, h5, -⟩ := h.2.2.2.2.1 s hs
  rcases h5 with e | ⟨v, hv, e⟩
  · have e : I 54 (7 * s + 5) = -1 := e
    rw [e, if_pos (by decide)]; rfl
  · have e : I 54 (7 * s + 5) = nI v := e
    rw [e, if_neg (nI_pos (by omega))]
    have ne : ¬ nI v = -1 := fun q => nI_pos (n := v) (by omega) (by rw [q]; decide)
    by_cases b : (k >>> (nI v &&& 31)) &&& 1 = 1
    · simp [ne, b]
    · simp [ne, b]
theorem zs_fact {n : Nat} {I : Nat → Nat → Int32} (h : zi_sc n I) {s : Nat} (hs : s < n) (k : Int32) : k ||| zz_fact I (nI s) = zh_kb (I 54 (7 * s + 4)) k := by
  have hn := h.1
  unfold zz_fact zh_kb
  rw [zu_cf4 (by omega), h.2.2.2.1 _ (by omega)]
  obtain ⟨-, -, -, -, h4, -, -⟩ := h.2.2.2.2.1 s hs
  rcases h4 with e | ⟨v, hv, e⟩
  · have e : I 54 (7 * s + 4) = -1 := e
    rw [e, if_neg (by decide), if_pos rfl, zu_or0]
  · have e : I 54 (7 * s + 4) = nI v := e
    have ne : ¬ nI v = -1 := fun q => nI_pos (n := v) (by omega) (by rw [q]; decide)
    rw [e, if_pos (nI_pos' (by omega)), if_neg ne]
theorem zs_cheer {n : Nat} {I : Nat → Nat → Int32} (h : zi_sc n I) {s : Nat} (hs : s < n) (k : Int32) : zz_cheer I (nI s) k = zh_br (I 54 (7 * s + 5)) (I 54 (7 * s + 6)) k := by
  have hn := h.1
  unfold zz_cheer zh_br
  rw [zs_foll h hs, zu_cf6 (by omega), h.2.2.2.1 _ (by omega)]
  cases zh_cl (I 54 (7 * s + 5)) k <;> simp
/-- what clashes among x, by numbers: what both houses know then, and what clashes -/
def zh_C (f : Nat → Int32) (x k0 k1 : Int32) : Nat → Int32 × Int32 × Int32
  | 0 => (k0, k1, 0)
  | s + 1 => if bt x s = true then (if f (7 * s) = 0 then (zh_kb (f (7 * s + 4)) (zh_C f x k0 k1 s).1, (zh_C f x k0 k1 s).2.1, if zh_cl (f (7 * s + 5)) (zh_C f x k0 k1 s).1 = true then (zh_C f x k0 k1 s).2.2 ||| ((1 : Int32) <<< (nI s &&& 31)) else (zh_C f x k0 k1 s).2.2) else ((zh_C f x k0 k1 s).1, zh_kb (f (7 * s + 4)) (zh_C f x k0 k1 s).2.1, if zh_cl (f (7 * s + 5)) (zh_C f x k0 k1 s).2.1 = true then (zh_C f x k0 k1 s).2.2 ||| ((1 : Int32) <<< (nI s &&& 31)) else (zh_C f x k0 k1 s).2.2)) else zh_C f x k0 k1 s
theorem zm_clashes_l {N n : Nat} (hN : 100000 ≤ N) (hn : n ≤ 12) {I : Nat → Nat → Int32} {J : Nat → Nat → Int64} (h1 : I 52 1 = nI n) (x k0 k1 : Int32) : ∀ k s f, s + k = n → 2 * k < f → zl_X12_clashesOf N f 12 x 0 0 (zh_C (I 54) x k0 k1 s).1 (zh_C (I 54) x k0 k1 s).2.1 (zh_C (I 54) x k0 k1 s).2.2 (nI s) 0 I J = some ((zh_C (I 54) x k0 k1 n).2.2, I, J) := by
  intro k
  induction k with
  | zero =>
    intro s f hs hf
    obtain ⟨m, rfl⟩ : ∃ m, f = m + 1 := ⟨f - 1, by omega⟩
    obtain rfl : s = n := by omega
    rw [zo_X12_clashesOf_12]
    unfold zb_X12_clashesOf_12
    rw [h1, if_pos (nI_le (Nat.le_refl s) (by omega))]
  | succ k ih =>
    intro s f hs hf
    obtain ⟨m, rfl⟩ : ∃ m, f = m + 1 + 1 := ⟨f - 2, by omega⟩
    refine Eq.trans ?_ (ih (s + 1) m (by omega) (by omega))
    rw [zo_X12_clashesOf_12]
    unfold zb_X12_clashesOf_12
    rw [h1, if_neg (nI_ge (show s < n by omega) (by omega))]
    simp only [zo_X12_clashesOf_107, zb_X12_clashesOf_107]
    simp (disch := omega) only [nI_clamp, nI_leI, nI_ltI, nI_eq, nI_1, zu_gi, zu_lt0, zu_has, zu_b1, zu_b0, zu_bz, zu_play, zu_or0, zu_nle, false_or, or_false, Option.bind_some, if_true, if_false, ite_true, ite_false, not_true_eq_false, not_false_eq_true, decide_eq_true_eq, zu_f0, zu_f1, zu_f2, zu_f3, zu_f4, zu_f5, zu_f6, zu_cf0, zu_cf1, zu_cf2, zu_cf3, zu_cf4, zu_cf5, zu_cf6, zu_70, zu_71, zu_72, zu_73, zu_74, zu_75, zu_76, zm_clash, zm_kb]
    rw [zh_C]
    by_cases b : bt x s = true
    · by_cases p : I 54 (7 * s) = 0
      · cases q : zh_cl (I 54 (7 * s + 5)) (zh_C (I 54) x k0 k1 s).1 <;> simp [b, p, q]
      · cases q : zh_cl (I 54 (7 * s + 5)) (zh_C (I 54) x k0 k1 s).2.1 <;> simp [b, p, q]
    · simp [b]
theorem zm_clashNow {N n : Nat} (hN : 100000 ≤ N) (hn : n ≤ 12) {I : Nat → Nat → Int32} {J : Nat → Nat → Int64} (h1 : I 52 1 = nI n) (x : Int32) : zf_X12_clashNow N x I J = some ((zh_C (I 54) x (I 53 14) (I 53 15) n).2.2, I, J) := by
  obtain ⟨M, rfl⟩ := zu_one N hN
  rw [zo_X12_clashNow]
  unfold zb_X12_clashNow_0
  have e : zf_X12_clashesOf (M + 1) x (I 53 14) (I 53 15) I J = some ((zh_C (I 54) x (I 53 14) (I 53 15) n).2.2, I, J) := by
    rw [zo_X12_clashesOf]
    exact zm_clashes_l hN hn h1 x _ _ n 0 M (by omega) (by omega)
  exact zu_bd e rfl
theorem zs_clash_l {N n : Nat} (hN : 100000 ≤ N) {I : Nat → Nat → Int32} {J : Nat → Nat → Int64} (h : zi_sc n I) (x k0 k1 : Int32) : ∀ k s f, s + k = n → 3 * k < f → zl_X10_clashing N f 24 x (zh_C (I 54) x k0 k1 s).1 (zh_C (I 54) x k0 k1 s).2.1 (zh_C (I 54) x k0 k1 s).2.2 (nI s) 0 I J = some ((zh_C (I 54) x k0 k1 n).2.2, I, J) := by
  intro k
  have hn := h.1
  induction k with
  | zero =>
    intro s f hs hf
    obtain ⟨m, rfl⟩ : ∃ m, f = m + 1 := ⟨f - 1, by omega⟩
    obtain rfl : s = n := by omega
    rw [zo_X10_clashing_24]
    unfold zb_X10_clashing_24
    rw [h.2.2.1, if_pos (nI_le (Nat.le_refl s) (by omega))]
  | succ k ih =>
    intro s f hs hf
    obtain ⟨m, rfl⟩ : ∃ m, f = m + 1 + 1 + 1 := ⟨f - 3, by omega⟩
    have e0 : I 6 (7 * s + 0) = I 54 (7 * s) := h.2.2.2.1 _ (by omega)
    rw [zo_X10_clashing_24]
    unfold zb_X10_clashing_24
    rw [h.2.2.1, if_neg (nI_ge (show s < n by omega) (by omega))]
    simp only [zo_X10_clashing_99, zb_X10_clashing_99, zo_X10_clashing_131, zb_X10_clashing_131]
    simp (disch := omega) only [nI_clamp, nI_leI, nI_ltI, nI_eq, nI_1, zu_gi, zu_lt0, zu_has, zu_b1, zu_b0, zu_bz, zu_play, zu_or0, zu_nle, false_or, or_false, Option.bind_some, if_true, if_false, ite_true, ite_false, not_true_eq_false, not_false_eq_true, decide_eq_true_eq, zu_f0, zu_f1, zu_f2, zu_f3, zu_f4, zu_f5, zu_f6, zu_cf0, zu_cf1, zu_cf2, zu_cf3, zu_cf4, zu_cf5, zu_cf6, zu_70, zu_71, zu_72, zu_73, zu_74, zu_75, zu_76, zs_foll h (show s < n by omega), zs_fact h (show s < n by omega), e0]
    have i1 := ih (s + 1) m (by omega) (by omega)
    have i2 := ih (s + 1) (m + 1) (by omega) (by omega)
    rw [zh_C] at i1 i2
    by_cases b : bt x s = true
    · by_cases p : I 54 (7 * s) = 0
      · cases q : zh_cl (I 54 (7 * s + 5)) (zh_C (I 54) x k0 k1 s).1 <;> simp [b, p, q] at i1 ⊢ <;> exact i1
      · cases q : zh_cl (I 54 (7 * s + 5)) (zh_C (I 54) x k0 k1 s).2.1 <;> simp [b, p, q] at i1 ⊢ <;> exact i1
    · simp [b] at i2 ⊢
      exact i2
theorem zs_clash {N n : Nat} (hN : 100000 ≤ N) {I : Nat → Nat → Int32} {J : Nat → Nat → Int64} {F : zz_F} (h : zi n I J F) (x : Int32) : zf_X10_clashing N x I J = some ((zh_C (I 54) x (I 53 14) (I 53 15) n).2.2, I, J) := by
  obtain ⟨M, rfl⟩ := zu_one N hN
  have hn := h.1.1
  rw [zo_X10_clashing]
  unfold zb_X10_clashing_0
  have e0 : zz_kn I 0 = I 53 14 := h.2.1.2.2.2.2.2.1
  have e1 : zz_kn I 1 = I 53 15 := h.2.1.2.2.2.2.2.2.1
  rw [e0, e1]
  exact zs_clash_l hN h.1 x _ _ n 0 M (by omega) (by omega)
