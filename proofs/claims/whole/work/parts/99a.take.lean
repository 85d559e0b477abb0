/-! A RULE IS TAKEN -/
theorem zs_tcA_l {N : Nat} {J : Nat → Nat → Int64} {cs : Nat} (hc : cs ≤ 40) : ∀ k i u (X : Nat → Nat → Int32), i + k = cs → k < u → X 28 3 = nI cs → (∀ j, j < i → X 29 j = X 38 j) → ∃ X', zl_X1_takeCode__38 N u 20 0 (nI i) X J = some (0, zz_u X' 28 4 0, J) ∧ (∀ x, x ≠ 29 → X' x = X x) ∧ ∀ j, j < cs → X' 29 j = X 38 j := by
  intro k
  induction k with
  | zero =>
    intro i u X hi hu h3 hj
    obtain ⟨w, rfl⟩ : ∃ w, u = w + 1 := ⟨u - 1, by omega⟩
    obtain rfl : i = cs := by omega
    refine ⟨X, ?_, fun _ _ => rfl, hj⟩
    rw [zo_X1_takeCode__38_20]
    unfold zb_X1_takeCode__38_20
    rw [h3, if_pos (nI_le (Nat.le_refl i) (by omega))]
  | succ k ih =>
    intro i u X hi hu h3 hj
    obtain ⟨w, rfl⟩ : ∃ w, u = w + 1 := ⟨u - 1, by omega⟩
    rw [zo_X1_takeCode__38_20]
    unfold zb_X1_takeCode__38_20
    rw [h3, if_neg (nI_ge (show i < cs by omega) (by omega)), if_pos (nI_in (show i < 40 by omega) (by omega)), nI_clamp (by omega), nI_1]
    obtain ⟨X', g1, g2, g3⟩ := ih (i + 1) w (zz_u X 29 i (X 38 i)) (by omega) (by omega) (by rw [zu_ux (by omega)]; exact h3) (fun j hj2 => by
      rw [zu_ux (show 38 ≠ 29 by omega)]
      by_cases q : j = i
      · rw [q, zz_us]
      · rw [zz_un (fun w => q w.2)]; exact hj j (by omega))
    exact ⟨X', g1, fun x hx => (g2 x hx).trans (zu_ux hx), fun j hj2 => (g3 j hj2).trans (by rw [zu_ux (by omega)])⟩
theorem zs_tcA {N : Nat} (hN : 100000 ≤ N) {I : Nat → Nat → Int32} {J : Nat → Nat → Int64} {cs : Nat} (hc : cs ≤ 40) : ∃ X', zf_X1_takeCode__38 N (nI cs) I J = some (0, zz_u X' 28 4 0, J) ∧ (∀ x, x ≠ 29 → x ≠ 28 → X' x = I x) ∧ (∀ i, i ≠ 3 → X' 28 i = I 28 i) ∧ X' 28 3 = nI cs ∧ ∀ j, j < cs → X' 29 j = I 38 j := by
  have mn : zz_min (nI cs) (zz_min (nI 40) (nI 40)) = nI cs := by
    rw [show zz_min (nI 40) (nI 40) = nI 40 by decide]
    unfold zz_min
    rw [if_neg (nI_nlt hc (by omega))]
  obtain ⟨X', g1, g2, g3⟩ := zs_tcA_l (N := N) (J := J) hc cs 0 (N - 1) (zz_u I 28 3 (nI cs)) (by omega) (by omega) (zz_us _ _ _ _) (fun j hj => by omega)
  refine ⟨X', ?_, fun x x1 x2 => by rw [g2 x x1, zu_ux x2], fun i hi => by rw [g2 28 (by omega), zz_un (fun w => hi w.2)], by rw [g2 28 (by omega), zz_us], fun j hj => by rw [g3 j hj, zu_ux (by omega)]⟩
  obtain ⟨M, rfl⟩ := zu_one N hN
  rw [zo_X1_takeCode__38]
  unfold zb_X1_takeCode__38_0
  rw [mn]
  exact g1
theorem zs_tcB_l {N : Nat} {J : Nat → Nat → Int64} {cs : Nat} (hc : cs ≤ 7) : ∀ k i u (X : Nat → Nat → Int32), i + k = cs → k < u → X 28 3 = nI cs → (∀ j, j < i → X 29 j = X 0 j) → ∃ X', zl_X1_takeCode__0 N u 20 0 (nI i) X J = some (0, zz_u X' 28 4 0, J) ∧ (∀ x, x ≠ 29 → X' x = X x) ∧ ∀ j, j < cs → X' 29 j = X 0 j := by
  intro k
  induction k with
  | zero =>
    intro i u X hi hu h3 hj
    obtain ⟨w, rfl⟩ : ∃ w, u = w + 1 := ⟨u - 1, by omega⟩
    obtain rfl : i = cs := by omega
    refine ⟨X, ?_, fun _ _ => rfl, hj⟩
    rw [zo_X1_takeCode__0_20]
    unfold zb_X1_takeCode__0_20
    rw [h3, if_pos (nI_le (Nat.le_refl i) (by omega))]
  | succ k ih =>
    intro i u X hi hu h3 hj
    obtain ⟨w, rfl⟩ : ∃ w, u = w + 1 := ⟨u - 1, by omega⟩
    rw [zo_X1_takeCode__0_20]
    unfold zb_X1_takeCode__0_20
    rw [h3, if_neg (nI_ge (show i < cs by omega) (by omega)), if_pos (nI_in (show i < 7 by omega) (by omega)), if_pos (nI_in (show i < 40 by omega) (by omega)), nI_clamp (by omega), nI_1]
    obtain ⟨X', g1, g2, g3⟩ := ih (i + 1) w (zz_u X 29 i (X 0 i)) (by omega) (by omega) (by rw [zu_ux (by omega)]; exact h3) (fun j hj2 => by
      rw [zu_ux (show 0 ≠ 29 by omega)]
      by_cases q : j = i
      · rw [q, zz_us]
      · rw [zz_un (fun w => q w.2)]; exact hj j (by omega))
    exact ⟨X', g1, fun x hx => (g2 x hx).trans (zu_ux hx), fun j hj2 => (g3 j hj2).trans (by rw [zu_ux (by omega)])⟩
theorem zs_tcB {N : Nat} (hN : 100000 ≤ N) {I : Nat → Nat → Int32} {J : Nat → Nat → Int64} {cs : Nat} (hc : cs ≤ 7) : ∃ X', zf_X1_takeCode__0 N (nI cs) I J = some (0, zz_u X' 28 4 0, J) ∧ (∀ x, x ≠ 29 → x ≠ 28 → X' x = I x) ∧ (∀ i, i ≠ 3 → X' 28 i = I 28 i) ∧ X' 28 3 = nI cs ∧ ∀ j, j < cs → X' 29 j = I 0 j := by
  have mn : zz_min (nI cs) (zz_min (nI 7) (nI 40)) = nI cs := by
    rw [show zz_min (nI 7) (nI 40) = nI 7 by decide]
    unfold zz_min
    rw [if_neg (nI_nlt hc (by omega))]
  obtain ⟨X', g1, g2, g3⟩ := zs_tcB_l (N := N) (J := J) hc cs 0 (N - 1) (zz_u I 28 3 (nI cs)) (by omega) (by omega) (zz_us _ _ _ _) (fun j hj => by omega)
  refine ⟨X', ?_, fun x x1 x2 => by rw [g2 x x1, zu_ux x2], fun i hi => by rw [g2 28 (by omega), zz_un (fun w => hi w.2)], by rw [g2 28 (by omega), zz_us], fun j hj => by rw [g3 j hj, zu_ux (by omega)]⟩
  obtain ⟨M, rfl⟩ := zu_one N hN
  rw [zo_X1_takeCode__0]
  unfold zb_X1_takeCode__0_0
  rw [mn]
  exact g1
theorem zs_tcC_l {N : Nat} {J : Nat → Nat → Int64} {cs : Nat} (hc : cs ≤ 40) : ∀ k i u (X : Nat → Nat → Int32), i + k = cs → k < u → X 32 3 = nI cs → (∀ j, j < i → X 33 j = X 38 j) → ∃ X', zl_X1_takeCode_32__38 N u 20 0 (nI i) X J = some (0, zz_u X' 32 4 0, J) ∧ (∀ x, x ≠ 33 → X' x = X x) ∧ ∀ j, j < cs → X' 33 j = X 38 j := by
  intro k
  induction k with
  | zero =>
    intro i u X hi hu h3 hj
    obtain ⟨w, rfl⟩ : ∃ w, u = w + 1 := ⟨u - 1, by omega⟩
    obtain rfl : i = cs := by omega
    refine ⟨X, ?_, fun _ _ => rfl, hj⟩
    rw [zo_X1_takeCode_32__38_20]
    unfold zb_X1_takeCode_32__38_20
    rw [h3, if_pos (nI_le (Nat.le_refl i) (by omega))]
  | succ k ih =>
    intro i u X hi hu h3 hj
    obtain ⟨w, rfl⟩ : ∃ w, u = w + 1 := ⟨u - 1, by omega⟩
    rw [zo_X1_takeCode_32__38_20]
    unfold zb_X1_takeCode_32__38_20
    rw [h3, if_neg (nI_ge (show i < cs by omega) (by omega)), if_pos (nI_in (show i < 40 by omega) (by omega)), nI_clamp (by omega), nI_1]
    obtain ⟨X', g1, g2, g3⟩ := ih (i + 1) w (zz_u X 33 i (X 38 i)) (by omega) (by omega) (by rw [zu_ux (by omega)]; exact h3) (fun j hj2 => by
      rw [zu_ux (show 38 ≠ 33 by omega)]
      by_cases q : j = i
      · rw [q, zz_us]
      · rw [zz_un (fun w => q w.2)]; exact hj j (by omega))
    exact ⟨X', g1, fun x hx => (g2 x hx).trans (zu_ux hx), fun j hj2 => (g3 j hj2).trans (by rw [zu_ux (by omega)])⟩
theorem zs_tcC {N : Nat} (hN : 100000 ≤ N) {I : Nat → Nat → Int32} {J : Nat → Nat → Int64} {cs : Nat} (hc : cs ≤ 40) : ∃ X', zf_X1_takeCode_32__38 N (nI cs) I J = some (0, zz_u X' 32 4 0, J) ∧ (∀ x, x ≠ 33 → x ≠ 32 → X' x = I x) ∧ (∀ i, i ≠ 3 → X' 32 i = I 32 i) ∧ X' 32 3 = nI cs ∧ ∀ j, j < cs → X' 33 j = I 38 j := by
  have mn : zz_min (nI cs) (zz_min (nI 40) (nI 40)) = nI cs := by
    rw [show zz_min (nI 40) (nI 40) = nI 40 by decide]
    unfold zz_min
    rw [if_neg (nI_nlt hc (by omega))]
  obtain ⟨X', g1, g2, g3⟩ := zs_tcC_l (N := N) (J := J) hc cs 0 (N - 1) (zz_u I 32 3 (nI cs)) (by omega) (by omega) (zz_us _ _ _ _) (fun j hj => by omega)
  refine ⟨X', ?_, fun x x1 x2 => by rw [g2 x x1, zu_ux x2], fun i hi => by rw [g2 32 (by omega), zz_un (fun w => hi w.2)], by rw [g2 32 (by omega), zz_us], fun j hj => by rw [g3 j hj, zu_ux (by omega)]⟩
  obtain ⟨M, rfl⟩ := zu_one N hN
  rw [zo_X1_takeCode_32__38]
  unfold zb_X1_takeCode_32__38_0
  rw [mn]
  exact g1
theorem zs_tcD_l {N : Nat} {J : Nat → Nat → Int64} {cs : Nat} (hc : cs ≤ 7) : ∀ k i u (X : Nat → Nat → Int32), i + k = cs → k < u → X 32 3 = nI cs → (∀ j, j < i → X 33 j = X 0 j) → ∃ X', zl_X1_takeCode_32__0 N u 20 0 (nI i) X J = some (0, zz_u X' 32 4 0, J) ∧ (∀ x, x ≠ 33 → X' x = X x) ∧ ∀ j, j < cs → X' 33 j = X 0 j := by
  intro k
  induction k with
  | zero =>
    intro i u X hi hu h3 hj
    obtain ⟨w, rfl⟩ : ∃ w, u = w + 1 := ⟨u - 1, by omega⟩
    obtain rfl : i = cs := by omega
    refine ⟨X, ?_, fun _ _ => rfl, hj⟩
    rw [zo_X1_takeCode_32__0_20]
    unfold zb_X1_takeCode_32__0_20
    rw [h3, if_pos (nI_le (Nat.le_refl i) (by omega))]
  | succ k ih =>
    intro i u X hi hu h3 hj
    obtain ⟨w, rfl⟩ : ∃ w, u = w + 1 := ⟨u - 1, by omega⟩
    rw [zo_X1_takeCode_32__0_20]
    unfold zb_X1_takeCode_32__0_20
    rw [h3, if_neg (nI_ge (show i < cs by omega) (by omega)), if_pos (nI_in (show i < 7 by omega) (by omega)), if_pos (nI_in (show i < 40 by omega) (by omega)), nI_clamp (by omega), nI_1]
    obtain ⟨X', g1, g2, g3⟩ := ih (i + 1) w (zz_u X 33 i (X 0 i)) (by omega) (by omega) (by rw [zu_ux (by omega)]; exact h3) (fun j hj2 => by
      rw [zu_ux (show 0 ≠ 33 by omega)]
      by_cases q : j = i
      · rw [q, zz_us]
      · rw [zz_un (fun w => q w.2)]; exact hj j (by omega))
    exact ⟨X', g1, fun x hx => (g2 x hx).trans (zu_ux hx), fun j hj2 => (g3 j hj2).trans (by rw [zu_ux (by omega)])⟩
theorem zs_tcD {N : Nat} (hN : 100000 ≤ N) {I : Nat → Nat → Int32} {J : Nat → Nat → Int64} {cs : Nat} (hc : cs ≤ 7) : ∃ X', zf_X1_takeCode_32__0 N (nI cs) I J = some (0, zz_u X' 32 4 0, J) ∧ (∀ x, x ≠ 33 → x ≠ 32 → X' x = I x) ∧ (∀ i, i ≠ 3 → X' 32 i = I 32 i) ∧ X' 32 3 = nI cs ∧ ∀ j, j < cs → X' 33 j = I 0 j := by
  have mn : zz_min (nI cs) (zz_min (nI 7) (nI 40)) = nI cs := by
    rw [show zz_min (nI 7) (nI 40) = nI 7 by decide]
    unfold zz_min
    rw [if_neg (nI_nlt hc (by omega))]
  obtain ⟨X', g1, g2, g3⟩ := zs_tcD_l (N := N) (J := J) hc cs 0 (N - 1) (zz_u I 32 3 (nI cs)) (by omega) (by omega) (zz_us _ _ _ _) (fun j hj => by omega)
  refine ⟨X', ?_, fun x x1 x2 => by rw [g2 x x1, zu_ux x2], fun i hi => by rw [g2 32 (by omega), zz_un (fun w => hi w.2)], by rw [g2 32 (by omega), zz_us], fun j hj => by rw [g3 j hj, zu_ux (by omega)]⟩
  obtain ⟨M, rfl⟩ := zu_one N hN
  rw [zo_X1_takeCode_32__0]
  unfold zb_X1_takeCode_32__0_0
  rw [mn]
  exact g1
/-- what is taken of a rule's code, for the changes at c and its code at a -/
def zi_tk (c a cs : Nat) (I X : Nat → Nat → Int32) : Prop := (∀ x, x ≠ a → x ≠ c → X x = I x) ∧ (∀ i, i ≠ 3 → i ≠ 4 → X c i = I c i) ∧ X c 3 = nI cs ∧ X c 4 = 0
theorem zs_from28 {N : Nat} (hN : 100000 ≤ N) {I : Nat → Nat → Int32} {J : Nat → Nat → Int64} {cs : Nat} (hc : cs ≤ 40) (h2 : I 37 2 = nI cs) : ∃ X, zf_X1_takeFrom__37 N I J = some (0, X, J) ∧ zi_tk 28 29 cs I X ∧ ∀ j, j < cs → X 29 j = I 38 j := by
  obtain ⟨X, g1, g2, g3, g4, g5⟩ := zs_tcA hN (I := I) (J := J) hc
  refine ⟨zz_u X 28 4 0, ?_, ⟨fun x x1 x2 => by rw [zu_ux x2, g2 x x1 x2], fun i i3 i4 => by rw [zz_un (fun w => i4 w.2), g3 i i3], by rw [zz_un (by omega)]; exact g4, zz_us _ _ _ _⟩, fun j hj => by rw [zu_ux (by omega), g5 j hj]⟩
  obtain ⟨M, rfl⟩ := zu_one N hN
  rw [zo_X1_takeFrom__37]
  unfold zb_X1_takeFrom__37_0
  rw [h2]
  exact zu_bd g1 rfl
theorem zs_from32 {N : Nat} (hN : 100000 ≤ N) {I : Nat → Nat → Int32} {J : Nat → Nat → Int64} {cs : Nat} (hc : cs ≤ 40) (h2 : I 37 2 = nI cs) : ∃ X, zf_X1_takeFrom_32__37 N I J = some (0, X, J) ∧ zi_tk 32 33 cs I X ∧ ∀ j, j < cs → X 33 j = I 38 j := by
  obtain ⟨X, g1, g2, g3, g4, g5⟩ := zs_tcC hN (I := I) (J := J) hc
  refine ⟨zz_u X 32 4 0, ?_, ⟨fun x x1 x2 => by rw [zu_ux x2, g2 x x1 x2], fun i i3 i4 => by rw [zz_un (fun w => i4 w.2), g3 i i3], by rw [zz_un (by omega)]; exact g4, zz_us _ _ _ _⟩, fun j hj => by rw [zu_ux (by omega), g5 j hj]⟩
  obtain ⟨M, rfl⟩ := zu_one N hN
  rw [zo_X1_takeFrom_32__37]
  unfold zb_X1_takeFrom_32__37_0
  rw [h2]
  exact zu_bd g1 rfl
theorem zs_plain28 {N : Nat} (hN : 100000 ≤ N) {I : Nat → Nat → Int32} {J : Nat → Nat → Int64} : ∃ X, zf_X1_takePlain N I J = some (0, X, J) ∧ zi_tk 28 29 7 I X ∧ ∀ j, j < 7 → X 29 j = I 0 j := by
  obtain ⟨X, g1, g2, g3, g4, g5⟩ := zs_tcB hN (I := I) (J := J) (Nat.le_refl 7)
  refine ⟨zz_u X 28 4 0, ?_, ⟨fun x x1 x2 => by rw [zu_ux x2, g2 x x1 x2], fun i i3 i4 => by rw [zz_un (fun w => i4 w.2), g3 i i3], by rw [zz_un (by omega)]; exact g4, zz_us _ _ _ _⟩, fun j hj => by rw [zu_ux (by omega), g5 j hj]⟩
  obtain ⟨M, rfl⟩ := zu_one N hN
  rw [zo_X1_takePlain]
  exact zu_bd g1 rfl
theorem zs_plain32 {N : Nat} (hN : 100000 ≤ N) {I : Nat → Nat → Int32} {J : Nat → Nat → Int64} : ∃ X, zf_X1_takePlain_32 N I J = some (0, X, J) ∧ zi_tk 32 33 7 I X ∧ ∀ j, j < 7 → X 33 j = I 0 j := by
  obtain ⟨X, g1, g2, g3, g4, g5⟩ := zs_tcD hN (I := I) (J := J) (Nat.le_refl 7)
  refine ⟨zz_u X 32 4 0, ?_, ⟨fun x x1 x2 => by rw [zu_ux x2, g2 x x1 x2], fun i i3 i4 => by rw [zz_un (fun w => i4 w.2), g3 i i3], by rw [zz_un (by omega)]; exact g4, zz_us _ _ _ _⟩, fun j hj => by rw [zu_ux (by omega), g5 j hj]⟩
  obtain ⟨M, rfl⟩ := zu_one N hN
  rw [zo_X1_takePlain_32]
  exact zu_bd g1 rfl
/-- the static row of the plain rule -/
def zi_pl (I : Nat → Nat → Int32) : Prop := I 0 0 = -111 ∧ I 0 1 = 2 ∧ I 0 2 = -42 ∧ I 0 3 = -112 ∧ I 0 4 = -43 ∧ I 0 5 = -113 ∧ I 0 6 = -43
theorem zc_plain {e c t : Nat → Int32} (h0 : c 0 = -111) (h1 : c 1 = 2) (h2 : c 2 = -42) (h3 : c 3 = -112) (h4 : c 4 = -43) (h5 : c 5 = -113) (h6 : c 6 = -43) : zc_s e c 7 = [zq_val 0 t e] := by
  have a0 : zc_s e c 1 = [e 0] := by
    show zc_1 e (c 0) [] = _
    rw [h0]; rfl
  have a1 : zc_s e c 2 = [2, e 0] := by
    show zc_1 e (c 1) (zc_s e c 1) = _
    rw [h1, a0]; rfl
  have a2 : zc_s e c 3 = [e 0 * 2] := by
    show zc_1 e (c 2) (zc_s e c 2) = _
    rw [h2, a1]; rfl
  have a3 : zc_s e c 4 = [e 1, e 0 * 2] := by
    show zc_1 e (c 3) (zc_s e c 3) = _
    rw [h3, a2]; rfl
  have a4 : zc_s e c 5 = [e 0 * 2 + e 1] := by
    show zc_1 e (c 4) (zc_s e c 4) = _
    rw [h4, a3]; rfl
  have a5 : zc_s e c 6 = [e 2, e 0 * 2 + e 1] := by
    show zc_1 e (c 5) (zc_s e c 5) = _
    rw [h5, a4]; rfl
  show zc_1 e (c 6) (zc_s e c 6) = _
  rw [h6, a5]
  show [e 0 * 2 + e 1 + e 2] = _
  unfold zq_val
  rw [if_pos rfl, Int32.mul_comm 2 (e 0)]
/-! the reference reads a rule -/
theorem zm_rr {N : Nat} (hN : 100000 ≤ N) {P : Nat → Nat → Int32} {J : Nat → Nat → Int64} {F : zz_F} {len : Nat} (hl : len ≤ 80) {t : Nat → Int32} (hb : ∀ i, i < min len 40 → ∃ b, b < 256 ∧ t i = (nI b).toInt8.toInt32) (p4 : P 52 4 = nI len) (p55 : P 55 = t) : ∃ v Y, zf_X12_readRule N P J F = some (v, Y, J, zz_Fre F (some 55)) ∧ (∀ x, x ≠ 52 → Y x = P x) ∧ (∀ i, i ≠ 4 → i ≠ 9 → i ≠ 10 → i ≠ 11 → i ≠ 12 → i ≠ 17 → Y 52 i = P 52 i) ∧ Y 52 4 = 0 ∧ ((len = 0 ∧ v = 1) ∨ (0 < len ∧ ∃ u, zq_g (min len 40) t (fun _ => 0) 999 0 0 0 0 = .inr (u, len) ∧ v = 1) ∨ (0 < len ∧ v = 0 ∧ ∃ x, zg_bad (min len 40) t (fun _ => 0) len x ∧ Y 52 12 = nI x)) := by
  have bg := zm_begin hN 40 P J F
  rw [p4] at bg
  obtain ⟨m, hm⟩ : ∃ m, m = min len 40 := ⟨_, rfl⟩
  rw [← hm] at hb ⊢
  have em : zz_u (zr_m (zz_u (zz_u (zz_u P 52 9 (nI len)) 52 10 40) 52 4 0) 0 (-1)) 52 17 0 = zr_m (zz_u (zz_u (zz_u (zz_u P 52 9 (nI len)) 52 10 40) 52 4 0) 52 17 0) (nI 0) (-1) := by
    funext b j
    unfold zr_m zz_u
    by_cases q : b = 52
    · subst q
      by_cases q1 : j = 17
      · subst q1; simp
      · by_cases q2 : j = 12
        · subst q2; simp
        · by_cases q3 : j = 11
          · subst q3; simp; rfl
          · simp [q1, q2, q3]
    · simp [q]
  generalize hB : zz_u (zz_u (zz_u (zz_u P 52 9 (nI len)) 52 10 40) 52 4 0) 52 17 0 = B at em
  have Bx : ∀ x, x ≠ 52 → B x = P x := fun x hx => by rw [← hB, zu_ux hx, zu_ux hx, zu_ux hx, zu_ux hx]
  have B52 : ∀ i, i ≠ 4 → i ≠ 9 → i ≠ 10 → i ≠ 17 → B 52 i = P 52 i := fun i i1 i2 i3 i4 => by rw [← hB, zz_un (fun w => i4 w.2), zz_un (fun w => i1 w.2), zz_un (fun w => i3 w.2), zz_un (fun w => i2 w.2)]
  have B4 : B 52 4 = 0 := by rw [← hB]; rfl
  have B9 : B 52 9 = nI len := by rw [← hB]; rfl
  have ok : zr_ok B (zz_Fre F (some 55)) m t := ⟨55, len, 40, by omega, rfl, rfl, (Bx 55 (by omega)).trans p55, B9, by rw [← hB]; rfl, by omega, by omega, hm, by show m ≤ 80; omega⟩
  have fr1 : ∀ (a w : Int32) x, x ≠ 52 → zr_m B a w x = P x := fun a w x hx => (zr_x hx).trans (Bx x hx)
  have fr2 : ∀ (a w : Int32) i, i ≠ 4 → i ≠ 9 → i ≠ 10 → i ≠ 11 → i ≠ 12 → i ≠ 17 → zr_m B a w 52 i = P 52 i := fun a w i i1 i2 i3 i4 i5 i6 => by
    unfold zr_m
    rw [zz_un (fun w => i5 w.2), zz_un (fun w => i4 w.2), B52 i i1 i2 i3 i6]
  have fr3 : ∀ (a w : Int32), zr_m B a w 52 4 = 0 := fun a w => B4
  by_cases l0 : len = 0
  · refine ⟨1, zr_m B (nI 0) (-1), ?_, fr1 _ _, fr2 _ _, fr3 _ _, .inl ⟨l0, rfl⟩⟩
    obtain ⟨M, rfl⟩ := zu_one N hN
    rw [zo_X12_readRule]
    unfold zb_X12_readRule_0
    refine zu_bd bg ?_
    dsimp only
    rw [em]
    have wr : zv_X12_wasRight (zr_m B (nI 0) (-1)) = 1 := by
      unfold zv_X12_wasRight
      rw [show zr_m B (nI 0) (-1) 52 9 = nI 0 by rw [← l0]; exact B9, zr_11, if_pos (by decide), zr_fine]
    have ww : zw_X12_wasRight (zr_m B (nI 0) (-1)) = zr_m B (nI 0) (-1) := by
      unfold zw_X12_wasRight
      rw [show zr_m B (nI 0) (-1) 52 9 = nI 0 by rw [← l0]; exact B9, zr_11, if_pos (by decide)]
    rw [wr, ww]
    refine zu_gd ?_ (zu_gd (.inr rfl) rfl)
    show nI len ≤ 0
    rw [l0]; decide
  · have sim := (zr_sim hN (J := J) ok hb (by omega) (e := fun _ => 0) (fun k hk => by
      rw [show B 52 17 = 0 by rw [← hB]; rfl, if_pos rfl]) 999 0 0 (by omega) (by omega)).1 0 64 (by omega) (by omega) (by omega)
    have hd : ∀ r, zg_held N 64 0 (nI 0) (zr_m B (nI 0) (-1)) J (zz_Fre F (some 55)) = some r → zf_X12_readRule N P J F = if (zv_X12_wasRight r.2.1) = 0 ∨ (zv_X12_wasRight r.2.1) = 1 then (some (zv_X12_wasRight r.2.1, zw_X12_wasRight r.2.1, r.2.2.1, r.2.2.2)) else none := fun r hr => by
      obtain ⟨M, rfl⟩ := zu_one N hN
      rw [zo_X12_readRule]
      unfold zb_X12_readRule_0
      refine zu_bd bg ?_
      dsimp only
      rw [em]
      refine zu_gn (show ¬ nI len ≤ 0 from nI_ge (a := 0) (by omega) (by omega)) ?_
      unfold zf_X12_held_
      exact zu_bd hr rfl
    generalize hq : zq_g m t (fun _ => 0) 999 0 0 0 0 = q at sim
    cases q with
    | inl x =>
      obtain ⟨hx, v, b, s1⟩ := sim
      refine ⟨0, zr_m B b (nI x), ?_, fr1 _ _, fr2 _ _, fr3 _ _, .inr (.inr ⟨by omega, rfl, x, ⟨?_, .inl hq⟩, rfl⟩)⟩
      · rw [hd _ s1]
        have fz : zw_X12_fault (zr_m B b (nI x)) (zr_m B b (nI x) 52 11) = zr_m B b (nI x) := by
          unfold zw_X12_fault
          rw [zr_bad hx, if_pos rfl]
        unfold zv_X12_wasRight zw_X12_wasRight
        dsimp only
        rw [fz, ite_self, ite_self, zr_bad hx, if_pos (.inl rfl)]
      · have s2 := (zg_sim (m := m) (t := t) (fun _ => 0) 999 0 0 (by omega) (by omega)).1 0 [] [] (fun _ => false) 0 (by omega) (by omega) (fun _ => .inl rfl) (fun _ => rfl)
        rw [hq] at s2
        have := s2.1
        omega
    | inr pr =>
      obtain ⟨u, b⟩ := pr
      have prg := zq_prog _ _ _ _ _ _ _ (Nat.zero_le m) hq
      have s1 : zg_held N 64 0 (nI 0) (zr_m B (nI 0) (-1)) J (zz_Fre F (some 55)) = some (u, zr_m B (nI b) (-1), J, zz_Fre F (some 55)) := sim
      by_cases bl : b = len
      · subst bl
        refine ⟨1, zr_m B (nI b) (-1), ?_, fr1 _ _, fr2 _ _, fr3 _ _, .inr (.inl ⟨by omega, u, rfl, rfl⟩)⟩
        have wr : zv_X12_wasRight (zr_m B (nI b) (-1)) = 1 := by
          unfold zv_X12_wasRight
          rw [show zr_m B (nI b) (-1) 52 9 = nI b from B9, zr_11, if_pos (nI_le (Nat.le_refl b) (by omega)), zr_fine]
        have ww : zw_X12_wasRight (zr_m B (nI b) (-1)) = zr_m B (nI b) (-1) := by
          unfold zw_X12_wasRight
          rw [show zr_m B (nI b) (-1) 52 9 = nI b from B9, zr_11, if_pos (nI_le (Nat.le_refl b) (by omega))]
        rw [hd _ s1]
        dsimp only
        rw [wr, ww, if_pos (.inr rfl)]
      · refine ⟨0, zr_m B (nI b) (nI b), ?_, fr1 _ _, fr2 _ _, fr3 _ _, .inr (.inr ⟨by omega, rfl, b, ⟨by omega, .inr ⟨u, hq, by omega⟩⟩, rfl⟩)⟩
        have wr : zv_X12_wasRight (zr_m B (nI b) (-1)) = 0 := by
          unfold zv_X12_wasRight
          rw [show zr_m B (nI b) (-1) 52 9 = nI len from B9, zr_11, if_neg (nI_ge (by omega) (by omega)), zr_fault, zr_bad (by omega)]
        have ww : zw_X12_wasRight (zr_m B (nI b) (-1)) = zr_m B (nI b) (nI b) := by
          unfold zw_X12_wasRight
          rw [show zr_m B (nI b) (-1) 52 9 = nI len from B9, zr_11, if_neg (nI_ge (by omega) (by omega)), zr_fault]
        rw [hd _ s1]
        dsimp only
        rw [wr, ww, if_pos (.inl rfl)]
theorem zg_bad_fun {m : Nat} {t e : Nat → Int32} {len x y : Nat} (h : zg_bad m t e len x) (h2 : zg_bad m t e len y) : x = y := by
  rcases h.2 with a | ⟨u, a, a'⟩
  · rcases h2.2 with b | ⟨v, b, b'⟩
    · rw [a] at b; exact Sum.inl.inj b
    · rw [a] at b; cases b
  · rcases h2.2 with b | ⟨v, b, b'⟩
    · rw [a] at b; cases b
    · rw [a] at b
      exact congrArg Prod.snd (Sum.inr.inj b)
theorem zg_bad_no {m : Nat} {t e : Nat → Int32} {len x : Nat} {u : Int32} (h : zg_bad m t e len x) (h2 : zq_g m t e 999 0 0 0 0 = .inr (u, len)) : False := by
  rcases h.2 with a | ⟨v, a, a'⟩
  · rw [a] at h2; cases h2
  · rw [a] at h2
    have : x = len := congrArg Prod.snd (Sum.inr.inj h2)
    omega
