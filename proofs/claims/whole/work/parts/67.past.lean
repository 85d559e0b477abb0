/-! THE PAST: rows laid, remembered, brought back; printed by pure/gen67.py -/
def zh_pt (g f : Nat → Int32) (b k : Nat) : Nat → Int32 := fun j => if b ≤ j ∧ j < b + k then f (j - b) else g j
theorem zh_pt_0 (g f : Nat → Int32) (b : Nat) : zh_pt g f b 0 = g := by
  funext j
  unfold zh_pt
  rw [if_neg (by omega)]
theorem zh_pt_s (g f : Nat → Int32) (b k : Nat) : zh_up (zh_pt g f b k) (b + k) (f k) = zh_pt g f b (k + 1) := by
  funext j
  unfold zh_up zh_pt
  by_cases e : j = b + k
  · rw [if_pos e, if_pos (by omega), e, show b + k - b = k by omega]
  · rw [if_neg e]
    by_cases q : b ≤ j ∧ j < b + k
    · rw [if_pos q, if_pos (by omega)]
    · rw [if_neg q, if_neg (by omega)]
theorem zh_pt_in {g f : Nat → Int32} {b k j : Nat} (h : j < k) : zh_pt g f b k (b + j) = f j := by
  unfold zh_pt
  rw [if_pos (by omega), show b + j - b = j by omega]
theorem zh_pt_out {g f : Nat → Int32} {b k j : Nat} (h : j < b ∨ b + k ≤ j) : zh_pt g f b k j = g j := by
  unfold zh_pt
  rw [if_neg (by omega)]

theorem zm_lay53_61_l {N : Nat} {I : Nat → Nat → Int32} {J : Nat → Nat → Int64} (b : Nat) (hb : b + 18 ≤ 216) : ∀ k s f, s + k = 18 → k < f → zl_X12_lay__53_61 N f 2 (nI b) (nI s) (zh_r I 61 (zh_pt (I 61) (I 53) b s)) J = some (0, zh_r I 61 (zh_pt (I 61) (I 53) b 18), J) := by
  intro k
  induction k with
  | zero =>
    intro s f hs hf
    obtain ⟨m, rfl⟩ : ∃ m, f = m + 1 := ⟨f - 1, by omega⟩
    obtain rfl : s = 18 := by omega
    rw [zo_X12_lay__53_61_2]
    unfold zb_X12_lay__53_61_2
    rw [if_pos (by decide)]
  | succ k ih =>
    intro s f hs hf
    obtain ⟨m, rfl⟩ : ∃ m, f = m + 1 := ⟨f - 1, by omega⟩
    refine Eq.trans ?_ (ih (s + 1) m (by omega) (by omega))
    rw [zo_X12_lay__53_61_2]
    unfold zb_X12_lay__53_61_2
    rw [if_neg (show ¬ (18 : Int32) ≤ nI s from nI_ge (b := 18) (by omega) (by omega)), if_pos (nI_in (show s < 18 by omega) (by omega)), nI_add, if_pos (nI_in (show b + s < 216 by omega) (by omega)), nI_clamp (by omega), nI_clamp (by omega), zh_ru, nI_1, ← zh_pt_s]
    rfl
theorem zm_lay53_61 {N : Nat} (hN : 100000 ≤ N) {I : Nat → Nat → Int32} {J : Nat → Nat → Int64} (b : Nat) (hb : b + 18 ≤ 216) : zf_X12_lay__53_61 N (nI b) I J = some (0, zh_r I 61 (zh_pt (I 61) (I 53) b 18), J) := by
  obtain ⟨M, rfl⟩ := zu_one N hN
  rw [zo_X12_lay__53_61]
  have := zm_lay53_61_l (N := M + 1) (I := I) (J := J) b hb 18 0 M (by omega) (by omega)
  rw [zh_pt_0, zh_rs] at this
  exact this
theorem zm_lay53_62_l {N : Nat} {I : Nat → Nat → Int32} {J : Nat → Nat → Int64} (b : Nat) (hb : b + 18 ≤ 18) : ∀ k s f, s + k = 18 → k < f → zl_X12_lay__53_62 N f 2 (nI b) (nI s) (zh_r I 62 (zh_pt (I 62) (I 53) b s)) J = some (0, zh_r I 62 (zh_pt (I 62) (I 53) b 18), J) := by
  intro k
  induction k with
  | zero =>
    intro s f hs hf
    obtain ⟨m, rfl⟩ : ∃ m, f = m + 1 := ⟨f - 1, by omega⟩
    obtain rfl : s = 18 := by omega
    rw [zo_X12_lay__53_62_2]
    unfold zb_X12_lay__53_62_2
    rw [if_pos (by decide)]
  | succ k ih =>
    intro s f hs hf
    obtain ⟨m, rfl⟩ : ∃ m, f = m + 1 := ⟨f - 1, by omega⟩
    refine Eq.trans ?_ (ih (s + 1) m (by omega) (by omega))
    rw [zo_X12_lay__53_62_2]
    unfold zb_X12_lay__53_62_2
    rw [if_neg (show ¬ (18 : Int32) ≤ nI s from nI_ge (b := 18) (by omega) (by omega)), if_pos (nI_in (show s < 18 by omega) (by omega)), nI_add, if_pos (nI_in (show b + s < 18 by omega) (by omega)), nI_clamp (by omega), nI_clamp (by omega), zh_ru, nI_1, ← zh_pt_s]
    rfl
theorem zm_lay53_62 {N : Nat} (hN : 100000 ≤ N) {I : Nat → Nat → Int32} {J : Nat → Nat → Int64} (b : Nat) (hb : b + 18 ≤ 18) : zf_X12_lay__53_62 N (nI b) I J = some (0, zh_r I 62 (zh_pt (I 62) (I 53) b 18), J) := by
  obtain ⟨M, rfl⟩ := zu_one N hN
  rw [zo_X12_lay__53_62]
  have := zm_lay53_62_l (N := M + 1) (I := I) (J := J) b hb 18 0 M (by omega) (by omega)
  rw [zh_pt_0, zh_rs] at this
  exact this
theorem zm_lay62_61_l {N : Nat} {I : Nat → Nat → Int32} {J : Nat → Nat → Int64} (b : Nat) (hb : b + 18 ≤ 216) : ∀ k s f, s + k = 18 → k < f → zl_X12_lay__62_61 N f 2 (nI b) (nI s) (zh_r I 61 (zh_pt (I 61) (I 62) b s)) J = some (0, zh_r I 61 (zh_pt (I 61) (I 62) b 18), J) := by
  intro k
  induction k with
  | zero =>
    intro s f hs hf
    obtain ⟨m, rfl⟩ : ∃ m, f = m + 1 := ⟨f - 1, by omega⟩
    obtain rfl : s = 18 := by omega
    rw [zo_X12_lay__62_61_2]
    unfold zb_X12_lay__62_61_2
    rw [if_pos (by decide)]
  | succ k ih =>
    intro s f hs hf
    obtain ⟨m, rfl⟩ : ∃ m, f = m + 1 := ⟨f - 1, by omega⟩
    refine Eq.trans ?_ (ih (s + 1) m (by omega) (by omega))
    rw [zo_X12_lay__62_61_2]
    unfold zb_X12_lay__62_61_2
    rw [if_neg (show ¬ (18 : Int32) ≤ nI s from nI_ge (b := 18) (by omega) (by omega)), if_pos (nI_in (show s < 18 by omega) (by omega)), nI_add, if_pos (nI_in (show b + s < 216 by omega) (by omega)), nI_clamp (by omega), nI_clamp (by omega), zh_ru, nI_1, ← zh_pt_s]
    rfl
theorem zm_lay62_61 {N : Nat} (hN : 100000 ≤ N) {I : Nat → Nat → Int32} {J : Nat → Nat → Int64} (b : Nat) (hb : b + 18 ≤ 216) : zf_X12_lay__62_61 N (nI b) I J = some (0, zh_r I 61 (zh_pt (I 61) (I 62) b 18), J) := by
  obtain ⟨M, rfl⟩ := zu_one N hN
  rw [zo_X12_lay__62_61]
  have := zm_lay62_61_l (N := M + 1) (I := I) (J := J) b hb 18 0 M (by omega) (by omega)
  rw [zh_pt_0, zh_rs] at this
  exact this
theorem zm_lay53_63_l {N : Nat} {I : Nat → Nat → Int32} {J : Nat → Nat → Int64} (b : Nat) (hb : b + 18 ≤ 18) : ∀ k s f, s + k = 18 → k < f → zl_X12_lay__53_63 N f 2 (nI b) (nI s) (zh_r I 63 (zh_pt (I 63) (I 53) b s)) J = some (0, zh_r I 63 (zh_pt (I 63) (I 53) b 18), J) := by
  intro k
  induction k with
  | zero =>
    intro s f hs hf
    obtain ⟨m, rfl⟩ : ∃ m, f = m + 1 := ⟨f - 1, by omega⟩
    obtain rfl : s = 18 := by omega
    rw [zo_X12_lay__53_63_2]
    unfold zb_X12_lay__53_63_2
    rw [if_pos (by decide)]
  | succ k ih =>
    intro s f hs hf
    obtain ⟨m, rfl⟩ : ∃ m, f = m + 1 := ⟨f - 1, by omega⟩
    refine Eq.trans ?_ (ih (s + 1) m (by omega) (by omega))
    rw [zo_X12_lay__53_63_2]
    unfold zb_X12_lay__53_63_2
    rw [if_neg (show ¬ (18 : Int32) ≤ nI s from nI_ge (b := 18) (by omega) (by omega)), if_pos (nI_in (show s < 18 by omega) (by omega)), nI_add, if_pos (nI_in (show b + s < 18 by omega) (by omega)), nI_clamp (by omega), nI_clamp (by omega), zh_ru, nI_1, ← zh_pt_s]
    rfl
theorem zm_lay53_63 {N : Nat} (hN : 100000 ≤ N) {I : Nat → Nat → Int32} {J : Nat → Nat → Int64} (b : Nat) (hb : b + 18 ≤ 18) : zf_X12_lay__53_63 N (nI b) I J = some (0, zh_r I 63 (zh_pt (I 63) (I 53) b 18), J) := by
  obtain ⟨M, rfl⟩ := zu_one N hN
  rw [zo_X12_lay__53_63]
  have := zm_lay53_63_l (N := M + 1) (I := I) (J := J) b hb 18 0 M (by omega) (by omega)
  rw [zh_pt_0, zh_rs] at this
  exact this
theorem zm_lay53_80_l {N : Nat} {I : Nat → Nat → Int32} {J : Nat → Nat → Int64} (b : Nat) (hb : b + 18 ≤ 36) : ∀ k s f, s + k = 18 → k < f → zl_X12_lay__53_80 N f 2 (nI b) (nI s) (zh_r I 80 (zh_pt (I 80) (I 53) b s)) J = some (0, zh_r I 80 (zh_pt (I 80) (I 53) b 18), J) := by
  intro k
  induction k with
  | zero =>
    intro s f hs hf
    obtain ⟨m, rfl⟩ : ∃ m, f = m + 1 := ⟨f - 1, by omega⟩
    obtain rfl : s = 18 := by omega
    rw [zo_X12_lay__53_80_2]
    unfold zb_X12_lay__53_80_2
    rw [if_pos (by decide)]
  | succ k ih =>
    intro s f hs hf
    obtain ⟨m, rfl⟩ : ∃ m, f = m + 1 := ⟨f - 1, by omega⟩
    refine Eq.trans ?_ (ih (s + 1) m (by omega) (by omega))
    rw [zo_X12_lay__53_80_2]
    unfold zb_X12_lay__53_80_2
    rw [if_neg (show ¬ (18 : Int32) ≤ nI s from nI_ge (b := 18) (by omega) (by omega)), if_pos (nI_in (show s < 18 by omega) (by omega)), nI_add, if_pos (nI_in (show b + s < 36 by omega) (by omega)), nI_clamp (by omega), nI_clamp (by omega), zh_ru, nI_1, ← zh_pt_s]
    rfl
theorem zm_lay53_80 {N : Nat} (hN : 100000 ≤ N) {I : Nat → Nat → Int32} {J : Nat → Nat → Int64} (b : Nat) (hb : b + 18 ≤ 36) : zf_X12_lay__53_80 N (nI b) I J = some (0, zh_r I 80 (zh_pt (I 80) (I 53) b 18), J) := by
  obtain ⟨M, rfl⟩ := zu_one N hN
  rw [zo_X12_lay__53_80]
  have := zm_lay53_80_l (N := M + 1) (I := I) (J := J) b hb 18 0 M (by omega) (by omega)
  rw [zh_pt_0, zh_rs] at this
  exact this
def zh_rm (u a : Nat → Int32) (m : Nat) : Nat → Int32 := if m = 12 then zh_pt (fun j => if j < 198 then u (j + 18) else u j) a 198 18 else zh_pt u a (18 * m) 18
theorem zm_rem53_l {N : Nat} (hN : 100000 ≤ N) {I : Nat → Nat → Int32} {J : Nat → Nat → Int64} (h12 : I 52 20 = nI 12) : ∀ k s f, s + k = 198 → k < f → zl_X12_remember__53 N f 11 (nI s) (zh_r I 61 (fun j => if j < s then I 61 (j + 18) else I 61 j)) J = some (0, zz_u (zh_r I 61 (zh_pt (fun j => if j < 198 then I 61 (j + 18) else I 61 j) (I 53) 198 18)) 52 20 (nI 12), J) := by
  intro k
  induction k with
  | zero =>
    intro s f hs hf
    obtain ⟨m, rfl⟩ : ∃ m, f = m + 1 := ⟨f - 1, by omega⟩
    obtain rfl : s = 198 := by omega
    rw [zo_X12_remember__53_11]
    unfold zb_X12_remember__53_11
    rw [if_pos (by decide)]
    rw [show zh_r I 61 (fun j => if j < 198 then I 61 (j + 18) else I 61 j) 52 20 = I 52 20 from rfl, h12, show nI 12 - 1 = nI 11 from rfl, show (18 : Int32) * nI 11 = nI 198 from rfl]
    refine zu_bd (zm_lay53_61 hN (I := zz_u (zh_r I 61 (fun j => if j < 198 then I 61 (j + 18) else I 61 j)) 52 20 (nI 11)) 198 (by omega)) ?_
    congr 1
    congr 1
    congr 1
    funext b j
    unfold zz_u zh_r
    by_cases e : b = 52 ∧ j = 20
    · rw [if_pos e, if_pos e]
      rfl
    · rw [if_neg e, if_neg e]
      by_cases q : b = 61
      · subst q
        rw [if_pos rfl]
        rfl
      · simp only [if_neg q, if_neg e]
  | succ k ih =>
    intro s f hs hf
    obtain ⟨m, rfl⟩ : ∃ m, f = m + 1 := ⟨f - 1, by omega⟩
    refine Eq.trans ?_ (ih (s + 1) m (by omega) (by omega))
    rw [zo_X12_remember__53_11]
    unfold zb_X12_remember__53_11
    rw [if_neg (show ¬ (198 : Int32) ≤ nI s from nI_ge (b := 198) (by omega) (by omega)), show nI s + 18 = nI (s + 18) from nI_add s 18, if_pos (nI_in (show s + 18 < 216 by omega) (by omega)), if_pos (nI_in (show s < 216 by omega) (by omega)), nI_clamp (by omega), nI_clamp (by omega), zh_ru, nI_1]
    congr 1
    congr 1
    funext j
    unfold zh_up
    rw [zh_rr]
    by_cases e : j = s
    · subst e
      rw [if_pos rfl, if_neg (by omega), if_pos (by omega)]
    · rw [if_neg e]
      show (if j < s then I 61 (j + 18) else I 61 j) = _
      by_cases q : j < s
      · rw [if_pos q, if_pos (by omega)]
      · rw [if_neg q, if_neg (by omega)]
/-- the row of what can be undone, with one more -/
theorem zm_rem53 {N : Nat} (hN : 100000 ≤ N) {I : Nat → Nat → Int32} {J : Nat → Nat → Int64} {m : Nat} (hm : m ≤ 12) (h : I 52 20 = nI m) : zf_X12_remember__53 N I J = some (0, zz_u (zh_r I 61 (zh_rm (I 61) (I 53) m)) 52 20 (nI (if m = 12 then 12 else m + 1)), J) := by
  obtain ⟨M, rfl⟩ := zu_one N hN
  rw [zo_X12_remember__53]
  unfold zb_X12_remember__53_0
  by_cases e : m = 12
  · subst e
    rw [h, if_neg (fun w => w rfl), if_pos rfl]
    have := zm_rem53_l (N := M + 1) hN (I := I) (J := J) h 198 0 M (by omega) (by omega)
    rw [show (fun j => if j < 0 then I 61 (j + 18) else I 61 j) = I 61 from funext fun j => if_neg (by omega), zh_rs] at this
    unfold zh_rm
    rw [if_pos rfl]
    exact this
  · rw [h, if_pos (show ¬ nI m = 12 from fun w => e ((nI_eq (by omega) (by omega)).mp (show nI m = nI 12 from w))), if_neg e, show (18 : Int32) * nI m = nI (18 * m) from pk_mul 18 m]
    refine zu_bd (zm_lay53_61 hN (18 * m) (by omega)) ?_
    show some ((0 : Int32), zz_u (zh_r I 61 (zh_pt (I 61) (I 53) (18 * m) 18)) 52 20 (I 52 20 + 1), J) = _
    rw [h, nI_1]
    unfold zh_rm
    rw [if_neg e]
theorem zm_rem62_l {N : Nat} (hN : 100000 ≤ N) {I : Nat → Nat → Int32} {J : Nat → Nat → Int64} (h12 : I 52 20 = nI 12) : ∀ k s f, s + k = 198 → k < f → zl_X12_remember__62 N f 11 (nI s) (zh_r I 61 (fun j => if j < s then I 61 (j + 18) else I 61 j)) J = some (0, zz_u (zh_r I 61 (zh_pt (fun j => if j < 198 then I 61 (j + 18) else I 61 j) (I 62) 198 18)) 52 20 (nI 12), J) := by
  intro k
  induction k with
  | zero =>
    intro s f hs hf
    obtain ⟨m, rfl⟩ : ∃ m, f = m + 1 := ⟨f - 1, by omega⟩
    obtain rfl : s = 198 := by omega
    rw [zo_X12_remember__62_11]
    unfold zb_X12_remember__62_11
    rw [if_pos (by decide)]
    rw [show zh_r I 61 (fun j => if j < 198 then I 61 (j + 18) else I 61 j) 52 20 = I 52 20 from rfl, h12, show nI 12 - 1 = nI 11 from rfl, show (18 : Int32) * nI 11 = nI 198 from rfl]
    refine zu_bd (zm_lay62_61 hN (I := zz_u (zh_r I 61 (fun j => if j < 198 then I 61 (j + 18) else I 61 j)) 52 20 (nI 11)) 198 (by omega)) ?_
    congr 1
    congr 1
    congr 1
    funext b j
    unfold zz_u zh_r
    by_cases e : b = 52 ∧ j = 20
    · rw [if_pos e, if_pos e]
      rfl
    · rw [if_neg e, if_neg e]
      by_cases q : b = 61
      · subst q
        rw [if_pos rfl]
        rfl
      · simp only [if_neg q, if_neg e]
  | succ k ih =>
    intro s f hs hf
    obtain ⟨m, rfl⟩ : ∃ m, f = m + 1 := ⟨f - 1, by omega⟩
    refine Eq.trans ?_ (ih (s + 1) m (by omega) (by omega))
    rw [zo_X12_remember__62_11]
    unfold zb_X12_remember__62_11
    rw [if_neg (show ¬ (198 : Int32) ≤ nI s from nI_ge (b := 198) (by omega) (by omega)), show nI s + 18 = nI (s + 18) from nI_add s 18, if_pos (nI_in (show s + 18 < 216 by omega) (by omega)), if_pos (nI_in (show s < 216 by omega) (by omega)), nI_clamp (by omega), nI_clamp (by omega), zh_ru, nI_1]
    congr 1
    congr 1
    funext j
    unfold zh_up
    rw [zh_rr]
    by_cases e : j = s
    · subst e
      rw [if_pos rfl, if_neg (by omega), if_pos (by omega)]
    · rw [if_neg e]
      show (if j < s then I 61 (j + 18) else I 61 j) = _
      by_cases q : j < s
      · rw [if_pos q, if_pos (by omega)]
      · rw [if_neg q, if_neg (by omega)]
/-- the row of what can be undone, with one more -/
theorem zm_rem62 {N : Nat} (hN : 100000 ≤ N) {I : Nat → Nat → Int32} {J : Nat → Nat → Int64} {m : Nat} (hm : m ≤ 12) (h : I 52 20 = nI m) : zf_X12_remember__62 N I J = some (0, zz_u (zh_r I 61 (zh_rm (I 61) (I 62) m)) 52 20 (nI (if m = 12 then 12 else m + 1)), J) := by
  obtain ⟨M, rfl⟩ := zu_one N hN
  rw [zo_X12_remember__62]
  unfold zb_X12_remember__62_0
  by_cases e : m = 12
  · subst e
    rw [h, if_neg (fun w => w rfl), if_pos rfl]
    have := zm_rem62_l (N := M + 1) hN (I := I) (J := J) h 198 0 M (by omega) (by omega)
    rw [show (fun j => if j < 0 then I 61 (j + 18) else I 61 j) = I 61 from funext fun j => if_neg (by omega), zh_rs] at this
    unfold zh_rm
    rw [if_pos rfl]
    exact this
  · rw [h, if_pos (show ¬ nI m = 12 from fun w => e ((nI_eq (by omega) (by omega)).mp (show nI m = nI 12 from w))), if_neg e, show (18 : Int32) * nI m = nI (18 * m) from pk_mul 18 m]
    refine zu_bd (zm_lay62_61 hN (18 * m) (by omega)) ?_
    show some ((0 : Int32), zz_u (zh_r I 61 (zh_pt (I 61) (I 62) (18 * m) 18)) 52 20 (I 52 20 + 1), J) = _
    rw [h, nI_1]
    unfold zh_rm
    rw [if_neg e]
theorem zi_row_c {n : Nat} (hn : n ≤ 12) {a a' b b' : Nat → Int32} (ha : ∀ i, i < 18 → a' i = a i) (hb : ∀ i, i < 9 → b' i = b i) (h : zi_row n a b) : zi_row n a' b' := by
  obtain ⟨h0, h1, h2, h3, h4, h5, h6, h7, h8, h9, h10⟩ := h
  have st : ∀ w : Int32, zu_set (fun s => decide (a' s = w)) n = zu_set (fun s => decide (a s = w)) n := fun w => zu_set_cong fun i hi => by rw [ha i (by omega)]
  refine ⟨by rw [hb 0 (by omega), ha 12 (by omega)]; exact h0, by rw [hb 1 (by omega), ha 13 (by omega)]; exact h1, by rw [hb 2 (by omega), st]; exact h2, by rw [hb 3 (by omega), st]; exact h3, by rw [hb 4 (by omega), st]; exact h4, by rw [hb 5 (by omega), ha 14 (by omega)]; exact h5, by rw [hb 6 (by omega), ha 15 (by omega)]; exact h6, by rw [hb 7 (by omega), ha 16 (by omega)]; exact h7, by rw [hb 8 (by omega), ha 17 (by omega)]; exact h8, fun s hs => by rw [ha s (by omega)]; exact h9 s hs, by rw [ha 13 (by omega)]; exact h10⟩
theorem zu_ring : ∀ t, t < 12 → (zz_XR 0 none 0 10 t).getD 0 = 14 + t ∧ zz_XR 0 none 0 10 t = some (14 + t) := by decide +kernel
theorem zs_push8 {N : Nat} (hN : 100000 ≤ N) {I : Nat → Nat → Int32} {J : Nat → Nat → Int64} {t m : Nat} (ht : t < 12) (hm : m ≤ 12) (h4 : I 9 4 = nI t) (h5 : I 9 5 = nI m) : zf_X6_push__8 N I J = some (0, zz_u (zz_u (zz_cpn I (14 + t) 8) 9 4 (nI ((t + 1) % 12))) 9 5 (nI (if m = 12 then 12 else m + 1)), J) := by
  obtain ⟨M, rfl⟩ := zu_one N hN
  obtain ⟨r1, r2⟩ := zu_ring t ht
  rw [zo_X6_push__8]
  unfold zb_X6_push__8_0
  have c4 : zz_cpn I (14 + t) 8 9 4 = nI t := by unfold zz_cpn; rw [if_neg (by omega)]; exact h4
  have c5 : zz_cpn I (14 + t) 8 9 5 = nI m := by unfold zz_cpn; rw [if_neg (by omega)]; exact h5
  rw [h4, if_neg (nI_pos (by omega)), if_neg (show ¬ (12 : Int32) ≤ nI t from nI_ge (b := 12) ht (by omega)), nI_clamp (by omega), r1, if_pos r2, if_pos (by omega), c4, c5, nI_1, nI_1]
  have mn : zz_min 12 (nI (m + 1)) = nI (if m = 12 then 12 else m + 1) := by
    unfold zz_min
    by_cases e : m = 12
    · subst e; rfl
    · rw [if_neg e]
      by_cases q : m + 1 = 12
      · rw [q]; rfl
      · rw [if_pos (show nI (m + 1) < 12 from nI_lt (b := 12) (by omega) (by omega))]
  rw [mn]
  by_cases e : t + 1 = 12
  · rw [if_pos (show (12 : Int32) ≤ nI (t + 1) from nI_le (a := 12) (by omega) (by omega)), e]
    rfl
  · rw [if_neg (show ¬ (12 : Int32) ≤ nI (t + 1) from nI_ge (b := 12) (by omega) (by omega)), Nat.mod_eq_of_lt (show t + 1 < 12 by omega)]
theorem zs_push13 {N : Nat} (hN : 100000 ≤ N) {I : Nat → Nat → Int32} {J : Nat → Nat → Int64} {t m : Nat} (ht : t < 12) (hm : m ≤ 12) (h4 : I 9 4 = nI t) (h5 : I 9 5 = nI m) : zf_X6_push__13 N I J = some (0, zz_u (zz_u (zz_cpn I (14 + t) 13) 9 4 (nI ((t + 1) % 12))) 9 5 (nI (if m = 12 then 12 else m + 1)), J) := by
  obtain ⟨M, rfl⟩ := zu_one N hN
  obtain ⟨r1, r2⟩ := zu_ring t ht
  rw [zo_X6_push__13]
  unfold zb_X6_push__13_0
  have c4 : zz_cpn I (14 + t) 13 9 4 = nI t := by unfold zz_cpn; rw [if_neg (by omega)]; exact h4
  have c5 : zz_cpn I (14 + t) 13 9 5 = nI m := by unfold zz_cpn; rw [if_neg (by omega)]; exact h5
  rw [h4, if_neg (nI_pos (by omega)), if_neg (show ¬ (12 : Int32) ≤ nI t from nI_ge (b := 12) ht (by omega)), nI_clamp (by omega), r1, if_pos r2, if_pos (by omega), c4, c5, nI_1, nI_1]
  have mn : zz_min 12 (nI (m + 1)) = nI (if m = 12 then 12 else m + 1) := by
    unfold zz_min
    by_cases e : m = 12
    · subst e; rfl
    · rw [if_neg e]
      by_cases q : m + 1 = 12
      · rw [q]; rfl
      · rw [if_pos (show nI (m + 1) < 12 from nI_lt (b := 12) (by omega) (by omega))]
  rw [mn]
  by_cases e : t + 1 = 12
  · rw [if_pos (show (12 : Int32) ≤ nI (t + 1) from nI_le (a := 12) (by omega) (by omega)), e]
    rfl
  · rw [if_neg (show ¬ (12 : Int32) ≤ nI (t + 1) from nI_ge (b := 12) (by omega) (by omega)), Nat.mod_eq_of_lt (show t + 1 < 12 by omega)]
/-- the rings stay alike -/
theorem zi_rng_push {n : Nat} (hn : n ≤ 12) {I I' : Nat → Nat → Int32} {a b : Nat → Int32} {t m : Nat} (ht : t < 12) (hm : m ≤ 12) (hk : ∀ k, k < m → zi_row n (fun i => I 61 (18 * k + i)) (I (14 + (t + 12 - m + k) % 12))) (hab : zi_row n a b) (e61 : I' 61 = zh_rm (I 61) a m) (en : ∀ k, k < 12 → k ≠ t → I' (14 + k) = I (14 + k)) (eb : ∀ i, i < 9 → I' (14 + t) i = b i) (e5 : I' 9 5 = nI (if m = 12 then 12 else m + 1)) (e4 : I' 9 4 = nI ((t + 1) % 12)) (e20 : I' 52 20 = nI (if m = 12 then 12 else m + 1)) : zi_rng n I' := by
  by_cases e : m = 12
  · subst e
    refine ⟨12, (t + 1) % 12, by omega, Nat.mod_lt _ (by omega), e5, e20, e4, fun k hq => ?_⟩
    rw [e61]
    unfold zh_rm
    rw [if_pos rfl]
    by_cases q : k = 11
    · subst q
      have ix : ((t + 1) % 12 + 12 - 12 + 11) % 12 = t := by omega
      rw [ix]
      exact zi_row_c hn (fun i hi => zh_pt_in hi) eb hab
    · have ix : ((t + 1) % 12 + 12 - 12 + k) % 12 = (t + 12 - 12 + (k + 1)) % 12 := by omega
      rw [ix, en _ (Nat.mod_lt _ (by omega)) (by omega)]
      refine zi_row_c hn (fun i hi => ?_) (fun i _ => rfl) (hk (k + 1) (by omega))
      rw [zh_pt_out (by omega), if_pos (by omega), show 18 * k + i + 18 = 18 * (k + 1) + i by omega]
  · rw [if_neg e] at e5 e20
    refine ⟨m + 1, (t + 1) % 12, by omega, Nat.mod_lt _ (by omega), e5, e20, e4, fun k hq => ?_⟩
    rw [e61]
    unfold zh_rm
    rw [if_neg e]
    by_cases q : k = m
    · subst q
      have ix : ((t + 1) % 12 + 12 - (k + 1) + k) % 12 = t := by omega
      rw [ix]
      exact zi_row_c hn (fun i hi => zh_pt_in hi) eb hab
    · have ix : ((t + 1) % 12 + 12 - (m + 1) + k) % 12 = (t + 12 - m + k) % 12 := by omega
      rw [ix, en _ (Nat.mod_lt _ (by omega)) (by omega)]
      refine zi_row_c hn (fun i hi => ?_) (fun i _ => rfl) (hk k (by omega))
      rw [zh_pt_out (by omega)]

