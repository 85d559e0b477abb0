/-! LOOPS OVER THE SCENES THAT ONLY READ; printed by pure/gen51.py -/
theorem zp_X12_whereBits_l {N n : Nat} (hn : n ≤ 12) {I : Nat → Nat → Int32} {J : Nat → Nat → Int64} (h1 : I 52 1 = nI n) (w : Int32) : ∀ k s f, s + k = n → k < f → zl_X12_whereBits N f 4 w (zu_set (fun s => decide (I 53 s = w)) s) (nI s) I J = some (zu_set (fun s => decide (I 53 s = w)) n, I, J) := by
  intro k
  induction k with
  | zero =>
    intro s f hs hf
    obtain ⟨m, rfl⟩ : ∃ m, f = m + 1 := ⟨f - 1, by omega⟩
    obtain rfl : s = n := by omega
    show zb_X12_whereBits_4 N (zl_X12_whereBits N m) w (zu_set (fun s => decide (I 53 s = w)) s) (nI s) I J = _
    unfold zb_X12_whereBits_4
    rw [h1, if_pos (nI_le (Nat.le_refl s) (by omega))]
  | succ k ih =>
    intro s f hs hf
    obtain ⟨m, rfl⟩ : ∃ m, f = m + 1 := ⟨f - 1, by omega⟩
    refine Eq.trans ?_ (ih (s + 1) m (by omega) (by omega))
    show zb_X12_whereBits_4 N (zl_X12_whereBits N m) w (zu_set (fun s => decide (I 53 s = w)) s) (nI s) I J = _
    unfold zb_X12_whereBits_4
    rw [h1, if_neg (nI_ge (show s < n by omega) (by omega))]
    simp (disch := omega) only [nI_clamp, nI_leI, nI_ltI, nI_eq, nI_1, zu_gi, zu_lt0, zu_has, zu_b1, zu_b0, zu_bz, zu_play, zu_or0, zu_nle, false_or, or_false, Option.bind_some, if_true, if_false, ite_true, ite_false, not_true_eq_false, not_false_eq_true, decide_eq_true_eq, zu_f0, zu_f1, zu_f2, zu_f3, zu_f4, zu_f5, zu_f6, zu_cf0, zu_cf1, zu_cf2, zu_cf3, zu_cf4, zu_cf5, zu_cf6, zu_70, zu_71, zu_72, zu_73, zu_74, zu_75, zu_76, zu_set]
    repeat' split
    all_goals first | rfl | simp_all [Int32.add_zero, zu_or0]
theorem zp_X12_whereBits {N n : Nat} (hN : 100000 ≤ N) (hn : n ≤ 12) {I : Nat → Nat → Int32} {J : Nat → Nat → Int64} (h1 : I 52 1 = nI n) (w : Int32) : zf_X12_whereBits N w I J = some (zu_set (fun s => decide (I 53 s = w)) n, I, J) := by
  obtain ⟨M, rfl⟩ : ∃ M, N = M + 1 := ⟨N - 1, by omega⟩
  show zb_X12_whereBits_0 (M + 1) (zl_X12_whereBits (M + 1) M) w 0 0 I J = _
  unfold zb_X12_whereBits_0
  exact zp_X12_whereBits_l hn h1 w n 0 M (by omega) (by omega)
theorem zp_X12_ofPlay_l {N n : Nat} (hn : n ≤ 12) {I : Nat → Nat → Int32} {J : Nat → Nat → Int64} (h1 : I 52 1 = nI n) (x p : Int32) : ∀ k s f, s + k = n → k < f → zl_X12_ofPlay N f 5 x p (zu_set (fun s => bt x s && decide (I 54 (7 * s) = p)) s) (nI s) I J = some (zu_set (fun s => bt x s && decide (I 54 (7 * s) = p)) n, I, J) := by
  intro k
  induction k with
  | zero =>
    intro s f hs hf
    obtain ⟨m, rfl⟩ : ∃ m, f = m + 1 := ⟨f - 1, by omega⟩
    obtain rfl : s = n := by omega
    show zb_X12_ofPlay_5 N (zl_X12_ofPlay N m) x p (zu_set (fun s => bt x s && decide (I 54 (7 * s) = p)) s) (nI s) I J = _
    unfold zb_X12_ofPlay_5
    rw [h1, if_pos (nI_le (Nat.le_refl s) (by omega))]
  | succ k ih =>
    intro s f hs hf
    obtain ⟨m, rfl⟩ : ∃ m, f = m + 1 := ⟨f - 1, by omega⟩
    refine Eq.trans ?_ (ih (s + 1) m (by omega) (by omega))
    show zb_X12_ofPlay_5 N (zl_X12_ofPlay N m) x p (zu_set (fun s => bt x s && decide (I 54 (7 * s) = p)) s) (nI s) I J = _
    unfold zb_X12_ofPlay_5
    rw [h1, if_neg (nI_ge (show s < n by omega) (by omega))]
    simp (disch := omega) only [nI_clamp, nI_leI, nI_ltI, nI_eq, nI_1, zu_gi, zu_lt0, zu_has, zu_b1, zu_b0, zu_bz, zu_play, zu_or0, zu_nle, false_or, or_false, Option.bind_some, if_true, if_false, ite_true, ite_false, not_true_eq_false, not_false_eq_true, decide_eq_true_eq, zu_f0, zu_f1, zu_f2, zu_f3, zu_f4, zu_f5, zu_f6, zu_cf0, zu_cf1, zu_cf2, zu_cf3, zu_cf4, zu_cf5, zu_cf6, zu_70, zu_71, zu_72, zu_73, zu_74, zu_75, zu_76, zu_set]
    repeat' split
    all_goals first | rfl | simp_all [Int32.add_zero, zu_or0]
theorem zp_X12_ofPlay {N n : Nat} (hN : 100000 ≤ N) (hn : n ≤ 12) {I : Nat → Nat → Int32} {J : Nat → Nat → Int64} (h1 : I 52 1 = nI n) (x p : Int32) : zf_X12_ofPlay N x p I J = some (zu_set (fun s => bt x s && decide (I 54 (7 * s) = p)) n, I, J) := by
  obtain ⟨M, rfl⟩ : ∃ M, N = M + 1 := ⟨N - 1, by omega⟩
  show zb_X12_ofPlay_0 (M + 1) (zl_X12_ofPlay (M + 1) M) x p 0 0 I J = _
  unfold zb_X12_ofPlay_0
  exact zp_X12_ofPlay_l hn h1 x p n 0 M (by omega) (by omega)
theorem zp_X12_minutesOf_l {N n : Nat} (hn : n ≤ 12) {I : Nat → Nat → Int32} {J : Nat → Nat → Int64} (h1 : I 52 1 = nI n) (x : Int32) : ∀ k s f, s + k = n → k < f → zl_X12_minutesOf N f 4 x (zz_sum (fun s => if bt x s = true then I 54 (7 * s + 1) else 0) s) (nI s) I J = some (zz_sum (fun s => if bt x s = true then I 54 (7 * s + 1) else 0) n, I, J) := by
  intro k
  induction k with
  | zero =>
    intro s f hs hf
    obtain ⟨m, rfl⟩ : ∃ m, f = m + 1 := ⟨f - 1, by omega⟩
    obtain rfl : s = n := by omega
    show zb_X12_minutesOf_4 N (zl_X12_minutesOf N m) x (zz_sum (fun s => if bt x s = true then I 54 (7 * s + 1) else 0) s) (nI s) I J = _
    unfold zb_X12_minutesOf_4
    rw [h1, if_pos (nI_le (Nat.le_refl s) (by omega))]
  | succ k ih =>
    intro s f hs hf
    obtain ⟨m, rfl⟩ : ∃ m, f = m + 1 := ⟨f - 1, by omega⟩
    refine Eq.trans ?_ (ih (s + 1) m (by omega) (by omega))
    show zb_X12_minutesOf_4 N (zl_X12_minutesOf N m) x (zz_sum (fun s => if bt x s = true then I 54 (7 * s + 1) else 0) s) (nI s) I J = _
    unfold zb_X12_minutesOf_4
    rw [h1, if_neg (nI_ge (show s < n by omega) (by omega))]
    simp (disch := omega) only [nI_clamp, nI_leI, nI_ltI, nI_eq, nI_1, zu_gi, zu_lt0, zu_has, zu_b1, zu_b0, zu_bz, zu_play, zu_or0, zu_nle, false_or, or_false, Option.bind_some, if_true, if_false, ite_true, ite_false, not_true_eq_false, not_false_eq_true, decide_eq_true_eq, zu_f0, zu_f1, zu_f2, zu_f3, zu_f4, zu_f5, zu_f6, zu_cf0, zu_cf1, zu_cf2, zu_cf3, zu_cf4, zu_cf5, zu_cf6, zu_70, zu_71, zu_72, zu_73, zu_74, zu_75, zu_76, zz_sum]
    repeat' split
    all_goals first | rfl | simp_all [Int32.add_zero, zu_or0]
theorem zp_X12_minutesOf {N n : Nat} (hN : 100000 ≤ N) (hn : n ≤ 12) {I : Nat → Nat → Int32} {J : Nat → Nat → Int64} (h1 : I 52 1 = nI n) (x : Int32) : zf_X12_minutesOf N x I J = some (zz_sum (fun s => if bt x s = true then I 54 (7 * s + 1) else 0) n, I, J) := by
  obtain ⟨M, rfl⟩ : ∃ M, N = M + 1 := ⟨N - 1, by omega⟩
  show zb_X12_minutesOf_0 (M + 1) (zl_X12_minutesOf (M + 1) M) x 0 0 I J = _
  unfold zb_X12_minutesOf_0
  exact zp_X12_minutesOf_l hn h1 x n 0 M (by omega) (by omega)
theorem zp_X12_cheerOf_l {N n : Nat} (hn : n ≤ 12) {I : Nat → Nat → Int32} {J : Nat → Nat → Int64} (h1 : I 52 1 = nI n) (x : Int32) : ∀ k s f, s + k = n → k < f → zl_X12_cheerOf N f 4 x (zz_sum (fun s => if bt x s = true then I 54 (7 * s + 6) else 0) s) (nI s) I J = some (zz_sum (fun s => if bt x s = true then I 54 (7 * s + 6) else 0) n, I, J) := by
  intro k
  induction k with
  | zero =>
    intro s f hs hf
    obtain ⟨m, rfl⟩ : ∃ m, f = m + 1 := ⟨f - 1, by omega⟩
    obtain rfl : s = n := by omega
    show zb_X12_cheerOf_4 N (zl_X12_cheerOf N m) x (zz_sum (fun s => if bt x s = true then I 54 (7 * s + 6) else 0) s) (nI s) I J = _
    unfold zb_X12_cheerOf_4
    rw [h1, if_pos (nI_le (Nat.le_refl s) (by omega))]
  | succ k ih =>
    intro s f hs hf
    obtain ⟨m, rfl⟩ : ∃ m, f = m + 1 := ⟨f - 1, by omega⟩
    refine Eq.trans ?_ (ih (s + 1) m (by omega) (by omega))
    show zb_X12_cheerOf_4 N (zl_X12_cheerOf N m) x (zz_sum (fun s => if bt x s = true then I 54 (7 * s + 6) else 0) s) (nI s) I J = _
    unfold zb_X12_cheerOf_4
    rw [h1, if_neg (nI_ge (show s < n by omega) (by omega))]
    simp (disch := omega) only [nI_clamp, nI_leI, nI_ltI, nI_eq, nI_1, zu_gi, zu_lt0, zu_has, zu_b1, zu_b0, zu_bz, zu_play, zu_or0, zu_nle, false_or, or_false, Option.bind_some, if_true, if_false, ite_true, ite_false, not_true_eq_false, not_false_eq_true, decide_eq_true_eq, zu_f0, zu_f1, zu_f2, zu_f3, zu_f4, zu_f5, zu_f6, zu_cf0, zu_cf1, zu_cf2, zu_cf3, zu_cf4, zu_cf5, zu_cf6, zu_70, zu_71, zu_72, zu_73, zu_74, zu_75, zu_76, zz_sum]
    repeat' split
    all_goals first | rfl | simp_all [Int32.add_zero, zu_or0]
theorem zp_X12_cheerOf {N n : Nat} (hN : 100000 ≤ N) (hn : n ≤ 12) {I : Nat → Nat → Int32} {J : Nat → Nat → Int64} (h1 : I 52 1 = nI n) (x : Int32) : zf_X12_cheerOf N x I J = some (zz_sum (fun s => if bt x s = true then I 54 (7 * s + 6) else 0) n, I, J) := by
  obtain ⟨M, rfl⟩ : ∃ M, N = M + 1 := ⟨N - 1, by omega⟩
  show zb_X12_cheerOf_0 (M + 1) (zl_X12_cheerOf (M + 1) M) x 0 0 I J = _
  unfold zb_X12_cheerOf_0
  exact zp_X12_cheerOf_l hn h1 x n 0 M (by omega) (by omega)
theorem zp_X12_personsOf_l {N n : Nat} (hn : n ≤ 12) {I : Nat → Nat → Int32} {J : Nat → Nat → Int64} (h1 : I 52 1 = nI n) (x : Int32) : ∀ k s f, s + k = n → k < f → zl_X12_personsOf N f 4 x (zz_or (fun s => if bt x s = true then I 54 (7 * s + 2) else 0) s) (nI s) I J = some (zz_or (fun s => if bt x s = true then I 54 (7 * s + 2) else 0) n, I, J) := by
  intro k
  induction k with
  | zero =>
    intro s f hs hf
    obtain ⟨m, rfl⟩ : ∃ m, f = m + 1 := ⟨f - 1, by omega⟩
    obtain rfl : s = n := by omega
    show zb_X12_personsOf_4 N (zl_X12_personsOf N m) x (zz_or (fun s => if bt x s = true then I 54 (7 * s + 2) else 0) s) (nI s) I J = _
    unfold zb_X12_personsOf_4
    rw [h1, if_pos (nI_le (Nat.le_refl s) (by omega))]
  | succ k ih =>
    intro s f hs hf
    obtain ⟨m, rfl⟩ : ∃ m, f = m + 1 := ⟨f - 1, by omega⟩
    refine Eq.trans ?_ (ih (s + 1) m (by omega) (by omega))
    show zb_X12_personsOf_4 N (zl_X12_personsOf N m) x (zz_or (fun s => if bt x s = true then I 54 (7 * s + 2) else 0) s) (nI s) I J = _
    unfold zb_X12_personsOf_4
    rw [h1, if_neg (nI_ge (show s < n by omega) (by omega))]
    simp (disch := omega) only [nI_clamp, nI_leI, nI_ltI, nI_eq, nI_1, zu_gi, zu_lt0, zu_has, zu_b1, zu_b0, zu_bz, zu_play, zu_or0, zu_nle, false_or, or_false, Option.bind_some, if_true, if_false, ite_true, ite_false, not_true_eq_false, not_false_eq_true, decide_eq_true_eq, zu_f0, zu_f1, zu_f2, zu_f3, zu_f4, zu_f5, zu_f6, zu_cf0, zu_cf1, zu_cf2, zu_cf3, zu_cf4, zu_cf5, zu_cf6, zu_70, zu_71, zu_72, zu_73, zu_74, zu_75, zu_76, zz_or]
    repeat' split
    all_goals first | rfl | simp_all [Int32.add_zero, zu_or0]
theorem zp_X12_personsOf {N n : Nat} (hN : 100000 ≤ N) (hn : n ≤ 12) {I : Nat → Nat → Int32} {J : Nat → Nat → Int64} (h1 : I 52 1 = nI n) (x : Int32) : zf_X12_personsOf N x I J = some (zz_or (fun s => if bt x s = true then I 54 (7 * s + 2) else 0) n, I, J) := by
  obtain ⟨M, rfl⟩ : ∃ M, N = M + 1 := ⟨N - 1, by omega⟩
  show zb_X12_personsOf_0 (M + 1) (zl_X12_personsOf (M + 1) M) x 0 0 I J = _
  unfold zb_X12_personsOf_0
  exact zp_X12_personsOf_l hn h1 x n 0 M (by omega) (by omega)
theorem zp_X12_withPerson_l {N n : Nat} (hn : n ≤ 12) {I : Nat → Nat → Int32} {J : Nat → Nat → Int64} (h1 : I 52 1 = nI n) (x p : Int32) : ∀ k s f, s + k = n → k < f → zl_X12_withPerson N f 5 x p (zu_set (fun s => bt x s && decide (¬ I 54 (7 * s + 2) &&& p = 0)) s) (nI s) I J = some (zu_set (fun s => bt x s && decide (¬ I 54 (7 * s + 2) &&& p = 0)) n, I, J) := by
  intro k
  induction k with
  | zero =>
    intro s f hs hf
    obtain ⟨m, rfl⟩ : ∃ m, f = m + 1 := ⟨f - 1, by omega⟩
    obtain rfl : s = n := by omega
    show zb_X12_withPerson_5 N (zl_X12_withPerson N m) x p (zu_set (fun s => bt x s && decide (¬ I 54 (7 * s + 2) &&& p = 0)) s) (nI s) I J = _
    unfold zb_X12_withPerson_5
    rw [h1, if_pos (nI_le (Nat.le_refl s) (by omega))]
  | succ k ih =>
    intro s f hs hf
    obtain ⟨m, rfl⟩ : ∃ m, f = m + 1 := ⟨f - 1, by omega⟩
    refine Eq.trans ?_ (ih (s + 1) m (by omega) (by omega))
    show zb_X12_withPerson_5 N (zl_X12_withPerson N m) x p (zu_set (fun s => bt x s && decide (¬ I 54 (7 * s + 2) &&& p = 0)) s) (nI s) I J = _
    unfold zb_X12_withPerson_5
    rw [h1, if_neg (nI_ge (show s < n by omega) (by omega))]
    simp (disch := omega) only [nI_clamp, nI_leI, nI_ltI, nI_eq, nI_1, zu_gi, zu_lt0, zu_has, zu_b1, zu_b0, zu_bz, zu_play, zu_or0, zu_nle, false_or, or_false, Option.bind_some, if_true, if_false, ite_true, ite_false, not_true_eq_false, not_false_eq_true, decide_eq_true_eq, zu_f0, zu_f1, zu_f2, zu_f3, zu_f4, zu_f5, zu_f6, zu_cf0, zu_cf1, zu_cf2, zu_cf3, zu_cf4, zu_cf5, zu_cf6, zu_70, zu_71, zu_72, zu_73, zu_74, zu_75, zu_76, zu_set]
    repeat' split
    all_goals first | rfl | simp_all [Int32.add_zero, zu_or0]
theorem zp_X12_withPerson {N n : Nat} (hN : 100000 ≤ N) (hn : n ≤ 12) {I : Nat → Nat → Int32} {J : Nat → Nat → Int64} (h1 : I 52 1 = nI n) (x p : Int32) : zf_X12_withPerson N x p I J = some (zu_set (fun s => bt x s && decide (¬ I 54 (7 * s + 2) &&& p = 0)) n, I, J) := by
  obtain ⟨M, rfl⟩ : ∃ M, N = M + 1 := ⟨N - 1, by omega⟩
  show zb_X12_withPerson_0 (M + 1) (zl_X12_withPerson (M + 1) M) x p 0 0 I J = _
  unfold zb_X12_withPerson_0
  exact zp_X12_withPerson_l hn h1 x p n 0 M (by omega) (by omega)
theorem zp_X9_sumOf_l {N n : Nat} (hn : n ≤ 12) {I : Nat → Nat → Int32} {J : Nat → Nat → Int64} (h1 : I 5 2 = nI n) (x : Int32) (w : Nat) (hw : w < 7) : ∀ k s f, s + k = n → k < f → zl_X9_sumOf N f 5 x (nI w) (zz_sum (fun s => if bt x s = true then I 6 (7 * s + w) else 0) s) (nI s) I J = some (zz_sum (fun s => if bt x s = true then I 6 (7 * s + w) else 0) n, I, J) := by
  intro k
  induction k with
  | zero =>
    intro s f hs hf
    obtain ⟨m, rfl⟩ : ∃ m, f = m + 1 := ⟨f - 1, by omega⟩
    obtain rfl : s = n := by omega
    show zb_X9_sumOf_5 N (zl_X9_sumOf N m) x (nI w) (zz_sum (fun s => if bt x s = true then I 6 (7 * s + w) else 0) s) (nI s) I J = _
    unfold zb_X9_sumOf_5
    rw [h1, if_pos (nI_le (Nat.le_refl s) (by omega))]
  | succ k ih =>
    intro s f hs hf
    obtain ⟨m, rfl⟩ : ∃ m, f = m + 1 := ⟨f - 1, by omega⟩
    refine Eq.trans ?_ (ih (s + 1) m (by omega) (by omega))
    show zb_X9_sumOf_5 N (zl_X9_sumOf N m) x (nI w) (zz_sum (fun s => if bt x s = true then I 6 (7 * s + w) else 0) s) (nI s) I J = _
    unfold zb_X9_sumOf_5
    rw [h1, if_neg (nI_ge (show s < n by omega) (by omega))]
    simp (disch := omega) only [nI_clamp, nI_leI, nI_ltI, nI_eq, nI_1, zu_gi, zu_lt0, zu_has, zu_b1, zu_b0, zu_bz, zu_play, zu_or0, zu_nle, false_or, or_false, Option.bind_some, if_true, if_false, ite_true, ite_false, not_true_eq_false, not_false_eq_true, decide_eq_true_eq, zu_f0, zu_f1, zu_f2, zu_f3, zu_f4, zu_f5, zu_f6, zu_cf0, zu_cf1, zu_cf2, zu_cf3, zu_cf4, zu_cf5, zu_cf6, zu_70, zu_71, zu_72, zu_73, zu_74, zu_75, zu_76, zz_sum, zu_cfw]
    repeat' split
    all_goals first | rfl | simp_all [Int32.add_zero, zu_or0]
theorem zp_X9_sumOf {N n : Nat} (hN : 100000 ≤ N) (hn : n ≤ 12) {I : Nat → Nat → Int32} {J : Nat → Nat → Int64} (h1 : I 5 2 = nI n) (x : Int32) (w : Nat) (hw : w < 7) : zf_X9_sumOf N x (nI w) I J = some (zz_sum (fun s => if bt x s = true then I 6 (7 * s + w) else 0) n, I, J) := by
  obtain ⟨M, rfl⟩ : ∃ M, N = M + 1 := ⟨N - 1, by omega⟩
  show zb_X9_sumOf_0 (M + 1) (zl_X9_sumOf (M + 1) M) x (nI w) 0 0 I J = _
  unfold zb_X9_sumOf_0
  exact zp_X9_sumOf_l hn h1 x w hw n 0 M (by omega) (by omega)
theorem zp_X9_unionOf_l {N n : Nat} (hn : n ≤ 12) {I : Nat → Nat → Int32} {J : Nat → Nat → Int64} (h1 : I 5 2 = nI n) (x : Int32) (w : Nat) (hw : w < 7) : ∀ k s f, s + k = n → k < f → zl_X9_unionOf N f 5 x (nI w) (zz_or (fun s => if bt x s = true then I 6 (7 * s + w) else 0) s) (nI s) I J = some (zz_or (fun s => if bt x s = true then I 6 (7 * s + w) else 0) n, I, J) := by
  intro k
  induction k with
  | zero =>
    intro s f hs hf
    obtain ⟨m, rfl⟩ : ∃ m, f = m + 1 := ⟨f - 1, by omega⟩
    obtain rfl : s = n := by omega
    show zb_X9_unionOf_5 N (zl_X9_unionOf N m) x (nI w) (zz_or (fun s => if bt x s = true then I 6 (7 * s + w) else 0) s) (nI s) I J = _
    unfold zb_X9_unionOf_5
    rw [h1, if_pos (nI_le (Nat.le_refl s) (by omega))]
  | succ k ih =>
    intro s f hs hf
    obtain ⟨m, rfl⟩ : ∃ m, f = m + 1 := ⟨f - 1, by omega⟩
    refine Eq.trans ?_ (ih (s + 1) m (by omega) (by omega))
    show zb_X9_unionOf_5 N (zl_X9_unionOf N m) x (nI w) (zz_or (fun s => if bt x s = true then I 6 (7 * s + w) else 0) s) (nI s) I J = _
    unfold zb_X9_unionOf_5
    rw [h1, if_neg (nI_ge (show s < n by omega) (by omega))]
    simp (disch := omega) only [nI_clamp, nI_leI, nI_ltI, nI_eq, nI_1, zu_gi, zu_lt0, zu_has, zu_b1, zu_b0, zu_bz, zu_play, zu_or0, zu_nle, false_or, or_false, Option.bind_some, if_true, if_false, ite_true, ite_false, not_true_eq_false, not_false_eq_true, decide_eq_true_eq, zu_f0, zu_f1, zu_f2, zu_f3, zu_f4, zu_f5, zu_f6, zu_cf0, zu_cf1, zu_cf2, zu_cf3, zu_cf4, zu_cf5, zu_cf6, zu_70, zu_71, zu_72, zu_73, zu_74, zu_75, zu_76, zz_or, zu_cfw]
    repeat' split
    all_goals first | rfl | simp_all [Int32.add_zero, zu_or0]
theorem zp_X9_unionOf {N n : Nat} (hN : 100000 ≤ N) (hn : n ≤ 12) {I : Nat → Nat → Int32} {J : Nat → Nat → Int64} (h1 : I 5 2 = nI n) (x : Int32) (w : Nat) (hw : w < 7) : zf_X9_unionOf N x (nI w) I J = some (zz_or (fun s => if bt x s = true then I 6 (7 * s + w) else 0) n, I, J) := by
  obtain ⟨M, rfl⟩ : ∃ M, N = M + 1 := ⟨N - 1, by omega⟩
  show zb_X9_unionOf_0 (M + 1) (zl_X9_unionOf (M + 1) M) x (nI w) 0 0 I J = _
  unfold zb_X9_unionOf_0
  exact zp_X9_unionOf_l hn h1 x w hw n 0 M (by omega) (by omega)
theorem zp_X2_scenesWith_l {N n : Nat} (hn : n ≤ 12) {I : Nat → Nat → Int32} {J : Nat → Nat → Int64} (h1 : I 5 2 = nI n) (p : Int32) : ∀ k s f, s + k = n → k < f → zl_X2_scenesWith N f 4 p (zu_set (fun s => decide (¬ I 6 (7 * s + 2) &&& p = 0)) s) (nI s) I J = some (zu_set (fun s => decide (¬ I 6 (7 * s + 2) &&& p = 0)) n, I, J) := by
  intro k
  induction k with
  | zero =>
    intro s f hs hf
    obtain ⟨m, rfl⟩ : ∃ m, f = m + 1 := ⟨f - 1, by omega⟩
    obtain rfl : s = n := by omega
    show zb_X2_scenesWith_4 N (zl_X2_scenesWith N m) p (zu_set (fun s => decide (¬ I 6 (7 * s + 2) &&& p = 0)) s) (nI s) I J = _
    unfold zb_X2_scenesWith_4
    rw [h1, if_pos (nI_le (Nat.le_refl s) (by omega))]
  | succ k ih =>
    intro s f hs hf
    obtain ⟨m, rfl⟩ : ∃ m, f = m + 1 := ⟨f - 1, by omega⟩
    refine Eq.trans ?_ (ih (s + 1) m (by omega) (by omega))
    show zb_X2_scenesWith_4 N (zl_X2_scenesWith N m) p (zu_set (fun s => decide (¬ I 6 (7 * s + 2) &&& p = 0)) s) (nI s) I J = _
    unfold zb_X2_scenesWith_4
    rw [h1, if_neg (nI_ge (show s < n by omega) (by omega))]
    simp (disch := omega) only [nI_clamp, nI_leI, nI_ltI, nI_eq, nI_1, zu_gi, zu_lt0, zu_has, zu_b1, zu_b0, zu_bz, zu_play, zu_or0, zu_nle, false_or, or_false, Option.bind_some, if_true, if_false, ite_true, ite_false, not_true_eq_false, not_false_eq_true, decide_eq_true_eq, zu_f0, zu_f1, zu_f2, zu_f3, zu_f4, zu_f5, zu_f6, zu_cf0, zu_cf1, zu_cf2, zu_cf3, zu_cf4, zu_cf5, zu_cf6, zu_70, zu_71, zu_72, zu_73, zu_74, zu_75, zu_76, zu_set]
    repeat' split
    all_goals first | rfl | simp_all [Int32.add_zero, zu_or0]
theorem zp_X2_scenesWith {N n : Nat} (hN : 100000 ≤ N) (hn : n ≤ 12) {I : Nat → Nat → Int32} {J : Nat → Nat → Int64} (h1 : I 5 2 = nI n) (p : Int32) : zf_X2_scenesWith N p I J = some (zu_set (fun s => decide (¬ I 6 (7 * s + 2) &&& p = 0)) n, I, J) := by
  obtain ⟨M, rfl⟩ : ∃ M, N = M + 1 := ⟨N - 1, by omega⟩
  show zb_X2_scenesWith_0 (M + 1) (zl_X2_scenesWith (M + 1) M) p 0 0 I J = _
  unfold zb_X2_scenesWith_0
  exact zp_X2_scenesWith_l hn h1 p n 0 M (by omega) (by omega)
