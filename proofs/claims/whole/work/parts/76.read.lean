/-! THE REFERENCE'S READER -/
def zr_m (B : Nat → Nat → Int32) (a w : Int32) : Nat → Nat → Int32 := zz_u (zz_u B 52 11 a) 52 12 w
theorem zr_at (B : Nat → Nat → Int32) (a w a' : Int32) : zz_u (zr_m B a w) 52 11 a' = zr_m B a' w := by
  funext b j
  unfold zr_m zz_u
  by_cases e : b = 52
  · subst e
    by_cases q : j = 11
    · subst q; simp
    · by_cases q2 : j = 12 <;> simp [q, q2]
  · simp [e]
theorem zr_wr (B : Nat → Nat → Int32) (a w w' : Int32) : zz_u (zr_m B a w) 52 12 w' = zr_m B a w' := zz_uu _ _ _ _ _
theorem zr_11 (B : Nat → Nat → Int32) (a w : Int32) : zr_m B a w 52 11 = a := rfl
theorem zr_12 (B : Nat → Nat → Int32) (a w : Int32) : zr_m B a w 52 12 = w := rfl
theorem zr_x {B : Nat → Nat → Int32} {a w : Int32} {x : Nat} (h : x ≠ 52) : zr_m B a w x = B x := by
  unfold zr_m
  rw [zu_ux h, zu_ux h]
theorem zr_fine (B : Nat → Nat → Int32) (a : Int32) : zv_X12_fine (zr_m B a (-1)) = 1 := rfl
theorem zr_bad {B : Nat → Nat → Int32} {a : Int32} {x : Nat} (hx : x < 1000) : zv_X12_fine (zr_m B a (nI x)) = 0 := by
  unfold zv_X12_fine
  rw [zr_12, if_pos (fun q => nI_pos (n := x) (by omega) (by rw [q]; decide))]
theorem zr_fault (B : Nat → Nat → Int32) (a p : Int32) : zw_X12_fault (zr_m B a (-1)) p = zr_m B a p := by
  unfold zw_X12_fault
  rw [zr_fine, if_neg (by decide), zr_wr]
/-- what is read: t of which m signs are shown; cell r -/
def zr_ok (B : Nat → Nat → Int32) (F : zz_F) (m : Nat) (t : Nat → Int32) : Prop := ∃ r len top, r ≠ 52 ∧ zz_re F = some r ∧ zz_XK F.2.2.1 r = 12 ∧ B r = t ∧ B 52 9 = nI len ∧ B 52 10 = nI top ∧ len < 1000 ∧ top < 1000 ∧ m = min len top ∧ m ≤ zz_XL F.2.2.2.2.1 F.2.2.2.1 r
theorem zr_here {N : Nat} (hN : 100000 ≤ N) {B : Nat → Nat → Int32} {J : Nat → Nat → Int64} {F : zz_F} {m : Nat} {t : Nat → Int32} (h : zr_ok B F m t) {a : Nat} (ha : a < 1000) (w : Int32) : zf_X12_here N (zr_m B (nI a) w) J F = some (zq_h m t a, zr_m B (nI a) w, J, F) := by
  obtain ⟨r, len, top, r52, re, rk, rt, b9, b10, l1, t1, hm, hl⟩ := h
  obtain ⟨M, rfl⟩ := zu_one N hN
  rw [zo_X12_here]
  unfold zb_X12_here_0
  rw [show zr_m B (nI a) w 52 9 = nI len from b9, show zr_m B (nI a) w 52 10 = nI top from b10, zr_11]
  unfold zq_h
  by_cases c : len ≤ a
  · rw [if_pos (nI_le c (by omega)), if_neg (by omega)]
  · rw [if_neg (nI_ge (by omega) (by omega))]
    by_cases d : top ≤ a
    · rw [if_pos (nI_le d (by omega)), if_neg (by omega)]
    · rw [if_neg (nI_ge (by omega) (by omega)), re, Option.getD_some, if_pos rfl, if_pos rk, if_pos (by
        intro q
        rcases q with q | q
        · exact nI_pos (by omega) q
        · rw [nI_clamp (by omega)] at q; omega), nI_clamp (by omega), zr_x r52, rt, if_pos (by omega)]
theorem zr_pass {N : Nat} (hN : 100000 ≤ N) {B : Nat → Nat → Int32} {J : Nat → Nat → Int64} {F : zz_F} {m : Nat} {t : Nat → Int32} (h : zr_ok B F m t) {a : Nat} (ha : a < 1000) (c : Int32) : zf_X12_passes N c (zr_m B (nI a) (-1)) J F = if zq_h m t a = c then some (1, zr_m B (nI (a + 1)) (-1), J, F) else some (0, zr_m B (nI a) (-1), J, F) := by
  obtain ⟨M, rfl⟩ := zu_one N hN
  rw [zo_X12_passes]
  unfold zb_X12_passes_0
  rw [zr_fine, if_neg (by decide), zr_here hN h ha, Option.bind_some]
  by_cases q : zq_h m t a = c
  · rw [if_pos q, if_pos q]
    show some ((1 : Int32), zz_u (zr_m B (nI a) (-1)) 52 11 (nI a + 1), J, F) = _
    rw [zr_at, nI_1]
  · rw [if_neg q, if_neg q]
theorem zr_passB {N : Nat} (hN : 100000 ≤ N) {B : Nat → Nat → Int32} {J : Nat → Nat → Int64} {F : zz_F} {a : Int32} {x : Nat} (hx : x < 1000) (c : Int32) : zf_X12_passes N c (zr_m B a (nI x)) J F = some (0, zr_m B a (nI x), J, F) := by
  obtain ⟨M, rfl⟩ := zu_one N hN
  rw [zo_X12_passes]
  unfold zb_X12_passes_0
  rw [zr_bad hx, if_pos rfl]
theorem zr_need {N : Nat} (hN : 100000 ≤ N) {B : Nat → Nat → Int32} {J : Nat → Nat → Int64} {F : zz_F} {m : Nat} {t : Nat → Int32} (h : zr_ok B F m t) {a : Nat} (ha : a < 1000) (c : Int32) : zf_X12_need N c (zr_m B (nI a) (-1)) J F = if zq_h m t a = c then some (0, zr_m B (nI (a + 1)) (-1), J, F) else some (0, zr_m B (nI a) (nI a), J, F) := by
  obtain ⟨M, rfl⟩ := zu_one N hN
  rw [zo_X12_need]
  unfold zb_X12_need_0
  rw [zr_pass hN h ha]
  by_cases q : zq_h m t a = c
  · rw [if_pos q, if_pos q]; rfl
  · rw [if_neg q, if_neg q, Option.bind_some, if_neg (fun w => w rfl)]
    show some ((0 : Int32), zw_X12_fault (zr_m B (nI a) (-1)) (nI a), J, F) = _
    rw [zr_fault]
theorem zr_needB {N : Nat} (hN : 100000 ≤ N) {B : Nat → Nat → Int32} {J : Nat → Nat → Int64} {F : zz_F} {a : Int32} {x : Nat} (hx : x < 1000) (c : Int32) : zf_X12_need N c (zr_m B a (nI x)) J F = some (0, zr_m B a (nI x), J, F) := by
  obtain ⟨M, rfl⟩ := zu_one N hN
  rw [zo_X12_need]
  unfold zb_X12_need_0
  rw [zr_passB hN hx, Option.bind_some, if_neg (fun w => w rfl)]
  unfold zw_X12_fault
  rw [zr_bad hx, if_pos rfl]
theorem zq_h_lt {m : Nat} {t : Nat → Int32} {a : Nat} {c : Int32} (h : zq_h m t a = c) (hc : ¬ c < 0) : a < m := by
  unfold zq_h at h
  by_cases q : a < m
  · exact q
  · rw [if_neg q] at h
    exact absurd (by rw [← h]; decide) hc
/-- a sign is a byte's: what oneOf tells -/
theorem zq_sgn : ∀ k, k < 128 → ∀ b, b < 256 → (nI b).toInt8.toInt32 &&& 255 = nI k → (nI b).toInt8.toInt32 = nI k := by decide +kernel
theorem zr_one {N : Nat} (hN : 100000 ≤ N) {B : Nat → Nat → Int32} {J : Nat → Nat → Int64} {F : zz_F} {m : Nat} {t : Nat → Int32} (h : zr_ok B F m t) (hb : ∀ i, i < m → ∃ b, b < 256 ∧ t i = (nI b).toInt8.toInt32) {a : Nat} (ha : a < 1000) {c k : Nat} (hk : 1 ≤ k) (hck : c + k ≤ 128) : zf_X12_oneOf N (nI c) (nI k) (zr_m B (nI a) (-1)) J F = if nI c ≤ zq_h m t a ∧ zq_h m t a ≤ nI (c + k - 1) then some (zq_h m t a - nI c, zr_m B (nI (a + 1)) (-1), J, F) else some (0, zr_m B (nI a) (nI a), J, F) := by
  have h' := h
  obtain ⟨r, len, top, r52, re, rk, rt, b9, b10, l1, t1, hm, hl⟩ := h'
  obtain ⟨M, rfl⟩ := zu_one N hN
  rw [zo_X12_oneOf]
  unfold zb_X12_oneOf_0
  rw [zr_fine, if_pos (by decide), zr_here hN h ha, Option.bind_some]
  simp only []
  rw [nI_add, show nI (c + k) - 1 = nI (c + k - 1) by rw [show c + k = c + k - 1 + 1 by omega, nI_pred]; rfl]
  by_cases q : nI c ≤ zq_h m t a ∧ zq_h m t a ≤ nI (c + k - 1)
  · have q0 : ¬ zq_h m t a < 0 := fun w => by
      have := Int32.lt_of_le_of_lt q.1 w
      exact nI_pos (by omega) this
    have am : a < m := zq_h_lt rfl q0
    have inn : zv_X12_in (zq_h m t a) (nI c) (nI (c + k - 1)) = 1 := by
      unfold zv_X12_in
      rw [if_neg (Int32.not_lt.mpr q.1), if_neg (Int32.not_lt.mpr q.2)]
    rw [inn, if_pos (by decide), re, Option.getD_some, if_pos rfl, if_pos rk, if_pos q]
    rw [zr_11, show nI a + 1 - 1 = nI a by rw [nI_1, nI_pred], if_pos (by
      intro w
      rcases w with w | w
      · exact nI_pos (by omega) w
      · rw [nI_clamp (by omega)] at w; omega), nI_clamp (by omega), nI_1, zr_at, zr_x r52, rt]
    have e : zq_h m t a = t a &&& 255 := if_pos am
    obtain ⟨j, hj, ej⟩ := nI_of q0
    have j2 : j ≤ c + k - 1 := (nI_leI hj (by omega)).mp (by rw [← ej]; exact q.2)
    obtain ⟨b, hb1, hb2⟩ := hb a am
    have ta : t a = nI j := by
      rw [hb2]
      exact zq_sgn j (by omega) b hb1 (by rw [← hb2, ← e, ej])
    rw [ta, ej]
  · have inn : zv_X12_in (zq_h m t a) (nI c) (nI (c + k - 1)) = 0 := by
      unfold zv_X12_in
      by_cases w : zq_h m t a < nI c
      · rw [if_pos w]
      · rw [if_neg w, if_pos (Int32.not_le.mp (fun z => q ⟨Int32.not_lt.mp w, z⟩))]
    rw [inn, if_neg (fun w => w rfl), if_neg q, zr_11, zr_fault]
