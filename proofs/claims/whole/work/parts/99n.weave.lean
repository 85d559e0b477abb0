/-! WEAVES, ONE BY ONE, IN THE REFERENCE -/
/-- count, longest, shortest, its line, the found line, by the first play (two), fewest, over, ahead -/
abbrev zw_K : Type := Nat × Int32 × Int32 × List Nat × Option (List Nat) × Int32 × Int32 × (Nat → Int32) × (Nat → Int32) × (Nat → Int32)
def zw_lf (X Y : Int32) (a : zw_K) (ln : List Nat) (T e0 e1 : Nat) : zw_K := (a.1 + 1, zz_max a.2.1 (nI T), (if nI T < a.2.2.1 then nI T else a.2.2.1), (if nI T < a.2.2.1 then ln else a.2.2.2.1), (match a.2.2.2.2.1 with
    | some l => some l
    | none => if ¬ X < nI e0 ∧ ¬ Y < nI e1 then some ln else none), (if ln.head? = some 0 then zz_min a.2.2.2.2.2.1 (nI T) else a.2.2.2.2.2.1), (if ln.head? = some 1 then zz_min a.2.2.2.2.2.2.1 (nI T) else a.2.2.2.2.2.2.1), a.2.2.2.2.2.2.2)
def zw_n1 (a : zw_K) (k T : Nat) : zw_K := (a.1, a.2.1, a.2.2.1, a.2.2.2.1, a.2.2.2.2.1, a.2.2.2.2.2.1, a.2.2.2.2.2.2.1, zh_up a.2.2.2.2.2.2.2.1 k (zz_min (a.2.2.2.2.2.2.2.1 k) (nI T)), a.2.2.2.2.2.2.2.2.1, a.2.2.2.2.2.2.2.2.2)
def zw_nb (a : zw_K) (s k T : Nat) : Prop := nI T < a.2.2.2.2.2.2.2.2.1 s ∨ (nI T = a.2.2.2.2.2.2.2.2.1 s ∧ nI k < a.2.2.2.2.2.2.2.2.2 s)
noncomputable def zw_n2 (a : zw_K) (s k T : Nat) : zw_K := (a.1, a.2.1, a.2.2.1, a.2.2.2.1, a.2.2.2.2.1, a.2.2.2.2.2.1, a.2.2.2.2.2.2.1, a.2.2.2.2.2.2.2.1, @ite _ (zw_nb a s k T) (Classical.propDecidable _) (zh_up a.2.2.2.2.2.2.2.2.1 s (nI T)) a.2.2.2.2.2.2.2.2.1, @ite _ (zw_nb a s k T) (Classical.propDecidable _) (zh_up a.2.2.2.2.2.2.2.2.2 s (nI k)) a.2.2.2.2.2.2.2.2.2)
noncomputable def zw_go (p q : Nat) (A B : Nat → Nat) (W : Nat → Nat → Nat) (X Y : Int32) : Nat → Nat → Nat → Nat → Nat → List Nat → Nat → Nat → zw_K → zw_K
  | 0, i, j, _, T, ln, e0, e1, a => zw_lf X Y (zw_n1 a (i + j) T) ln T e0 e1
  | f + 1, i, j, x, T, ln, e0, e1, a =>
    if i < p then
      if j < q then zw_go p q A B W X Y f i (j + 1) (B j) (T + W x (B j)) (ln ++ [1]) e0 (T + W x (B j)) (zw_n2 (zw_go p q A B W X Y f (i + 1) j (A i) (T + W x (A i)) (ln ++ [0]) (T + W x (A i)) e1 (zw_n2 (zw_n1 a (i + j) T) (A i) (i + j) (T + W x (A i)))) (B j) (i + j) (T + W x (B j)))
      else zw_go p q A B W X Y f (i + 1) j (A i) (T + W x (A i)) (ln ++ [0]) (T + W x (A i)) e1 (zw_n2 (zw_n1 a (i + j) T) (A i) (i + j) (T + W x (A i)))
    else zw_go p q A B W X Y f i (j + 1) (B j) (T + W x (B j)) (ln ++ [1]) e0 (T + W x (B j)) (zw_n2 (zw_n1 a (i + j) T) (B j) (i + j) (T + W x (B j)))
/-- the memory holds them -/
def zw_R (I : Nat → Nat → Int32) (a : zw_K) : Prop := I 52 28 = nI a.1 ∧ I 52 30 = a.2.1 ∧ I 52 29 = a.2.2.1 ∧ (∀ i, i < a.2.2.2.1.length → I 66 i = nI (a.2.2.2.1.getD i 0)) ∧ I 52 35 = (if a.2.2.2.2.1.isSome = true then 1 else 0) ∧ (∀ l, a.2.2.2.2.1 = some l → ∀ i, i < l.length → I 73 i = nI (l.getD i 0)) ∧ I 69 0 = a.2.2.2.2.2.1 ∧ I 69 1 = a.2.2.2.2.2.2.1 ∧ (∀ k, k < 13 → I 68 k = a.2.2.2.2.2.2.2.1 k) ∧ ∀ s, s < 12 → I 70 s = a.2.2.2.2.2.2.2.2.1 s ∧ I 71 s = a.2.2.2.2.2.2.2.2.2 s
theorem zw_c73 {N K : Nat} (hK : K ≤ 12) {J : Nat → Nat → Int64} {T : Int32} : ∀ r k u (X : Nat → Nat → Int32), k + r = K → r + 20 < u → (∀ i, i < k → X 73 i = X 65 i) → ∃ X' u', 18 < u' ∧ zl_X12_endWeave N u 96 (nI K) T (nI k) X J = zl_X12_endWeave N u' 119 (nI K) T 0 X' J ∧ (∀ y, y ≠ 73 → X' y = X y) ∧ ∀ i, i < K → X' 73 i = X 65 i := by
  intro r
  induction r with
  | zero =>
    intro k u X hk hu hX
    obtain ⟨v, rfl⟩ : ∃ v, u = v + 1 := ⟨u - 1, by omega⟩
    obtain rfl : k = K := by omega
    refine ⟨X, v, by omega, ?_, fun _ _ => rfl, hX⟩
    rw [zo_X12_endWeave_96]
    unfold zb_X12_endWeave_96
    rw [if_pos (nI_le (Nat.le_refl k) (by omega))]
  | succ r ih =>
    intro k u X hk hu hX
    obtain ⟨v, rfl⟩ : ∃ v, u = v + 1 := ⟨u - 1, by omega⟩
    rw [zo_X12_endWeave_96]
    unfold zb_X12_endWeave_96
    rw [if_neg (nI_ge (show k < K by omega) (by omega)), if_pos (nI_in (show k < 12 by omega) (by omega)), nI_clamp (by omega), nI_1]
    obtain ⟨X', u', g0, g1, g2, g3⟩ := ih (k + 1) v (zz_u X 73 k (X 65 k)) (by omega) (by omega) (fun i hi => by
      rw [zu_ux (show 65 ≠ 73 by omega)]
      by_cases q : i = k
      · rw [q, zz_us]
      · rw [zz_un (fun w => q w.2)]; exact hX i (by omega))
    exact ⟨X', u', g0, g1, fun y hy => (g2 y hy).trans (zu_ux hy), fun i hi => (g3 i hi).trans (by rw [zu_ux (by omega)])⟩
theorem zw_c66 {N K : Nat} (hK : K ≤ 12) {J : Nat → Nat → Int64} : ∀ r k u (X : Nat → Nat → Int32), k + r = K → r < u → (∀ i, i < k → X 66 i = X 65 i) → ∃ X', zl_X12_endWeave N u 135 (nI K) 0 (nI k) X J = some (0, X', J) ∧ (∀ y, y ≠ 66 → X' y = X y) ∧ ∀ i, i < K → X' 66 i = X 65 i := by
  intro r
  induction r with
  | zero =>
    intro k u X hk hu hX
    obtain ⟨v, rfl⟩ : ∃ v, u = v + 1 := ⟨u - 1, by omega⟩
    obtain rfl : k = K := by omega
    refine ⟨X, ?_, fun _ _ => rfl, hX⟩
    rw [zo_X12_endWeave_135]
    unfold zb_X12_endWeave_135
    rw [if_pos (nI_le (Nat.le_refl k) (by omega))]
  | succ r ih =>
    intro k u X hk hu hX
    obtain ⟨v, rfl⟩ : ∃ v, u = v + 1 := ⟨u - 1, by omega⟩
    rw [zo_X12_endWeave_135]
    unfold zb_X12_endWeave_135
    rw [if_neg (nI_ge (show k < K by omega) (by omega)), if_pos (nI_in (show k < 12 by omega) (by omega)), nI_clamp (by omega), nI_1]
    obtain ⟨X', g1, g2, g3⟩ := ih (k + 1) v (zz_u X 66 k (X 65 k)) (by omega) (by omega) (fun i hi => by
      rw [zu_ux (show 65 ≠ 66 by omega)]
      by_cases q : i = k
      · rw [q, zz_us]
      · rw [zz_un (fun w => q w.2)]; exact hX i (by omega))
    exact ⟨X', g1, fun y hy => (g2 y hy).trans (zu_ux hy), fun i hi => (g3 i hi).trans (by rw [zu_ux (by omega)])⟩
theorem zm_end {N : Nat} (hN : 100000 ≤ N) {I : Nat → Nat → Int32} {J : Nat → Nat → Int64} {a : zw_K} (h : zw_R I a) {ln : List Nat} {T e0 e1 : Nat} (hl : ln.length ≤ 12) (h01 : ∀ v, v ∈ ln → v ≤ 1) (h65 : ∀ k, k < ln.length → I 65 k = nI (ln.getD k 0)) (h67 : I 67 0 = nI e0) (h67' : I 67 1 = nI e1) {X Y : Int32} (h72 : I 72 0 = X) (h72' : I 72 1 = Y) : ∃ I', zf_X12_endWeave N (nI ln.length) (nI T) I J = some (0, I', J) ∧ zw_R I' (zw_lf X Y a ln T e0 e1) ∧ (∀ y, y ≠ 52 → y ≠ 66 → y ≠ 69 → y ≠ 73 → I' y = I y) ∧ ∀ i, i ≠ 28 → i ≠ 29 → i ≠ 30 → i ≠ 35 → I' 52 i = I 52 i := by
  obtain ⟨r1, r2, r3, r4, r5, r6, r7, r8, r9, r10⟩ := h
  -- count, longest, by the first
  obtain ⟨I1, e1', x28, x30, x690, x691, xo, x52⟩ : ∃ I1, zf_X12_endWeave N (nI ln.length) (nI T) I J = zl_X12_endWeave N (N - 1) 52 (nI ln.length) (nI T) 0 I1 J ∧ I1 52 28 = nI (a.1 + 1) ∧ I1 52 30 = zz_max a.2.1 (nI T) ∧ I1 69 0 = (if ln.head? = some 0 then zz_min a.2.2.2.2.2.1 (nI T) else a.2.2.2.2.2.1) ∧ I1 69 1 = (if ln.head? = some 1 then zz_min a.2.2.2.2.2.2.1 (nI T) else a.2.2.2.2.2.2.1) ∧ (∀ y, y ≠ 52 → y ≠ 69 → I1 y = I y) ∧ ∀ i, i ≠ 28 → i ≠ 30 → I1 52 i = I 52 i := by
    cases ln with
    | nil =>
      refine ⟨zz_u (zz_u I 52 28 (I 52 28 + 1)) 52 30 (zz_max (I 52 30) (nI T)), ?_, by rw [zz_un (by omega), zz_us, r1, nI_1], by rw [zz_us, r2], by rw [zu_ux (by omega), zu_ux (by omega), r7]; rfl, by rw [zu_ux (by omega), zu_ux (by omega), r8]; rfl, fun y y1 y2 => by rw [zu_ux y1, zu_ux y1], fun i i1 i2 => by rw [zz_un (fun w => i2 w.2), zz_un (fun w => i1 w.2)]⟩
      obtain ⟨M, rfl⟩ := zu_one N hN
      rw [zo_X12_endWeave]
      unfold zb_X12_endWeave_0
      rw [if_pos (show nI ([] : List Nat).length ≤ 0 by decide)]
      rfl
    | cons f ln =>
      have f1 := h01 f (by simp)
      have c0 : I 65 0 = nI f := h65 0 (by simp)
      have Iw : zf_X12_endWeave N (nI (f :: ln).length) (nI T) I J = zl_X12_endWeave N (N - 1) 52 (nI (f :: ln).length) (nI T) 0 (zz_u (zz_u (zz_u I 52 28 (I 52 28 + 1)) 52 30 (zz_max (I 52 30) (nI T))) 69 f (zz_min (I 69 f) (nI T))) J := by
        obtain ⟨M, rfl⟩ := zu_one N hN
        rw [zo_X12_endWeave]
        unfold zb_X12_endWeave_0
        rw [if_neg (show ¬ nI (f :: ln).length ≤ 0 from nI_ge (a := 0) (by simp) (by omega)), c0, if_pos (nI_in (show f < 2 by omega) (by omega)), nI_clamp (by omega)]
        rfl
      refine ⟨_, Iw, by rw [zu_ux (by omega), zz_un (by omega), zz_us, r1, nI_1], by rw [zu_ux (by omega), zz_us, r2], ?_, ?_, fun y y1 y2 => by rw [zu_ux y2, zu_ux y1, zu_ux y1], fun i i1 i2 => by rw [zu_ux (by omega), zz_un (fun w => i2 w.2), zz_un (fun w => i1 w.2)]⟩
      · rcases (by omega : f = 0 ∨ f = 1) with rfl | rfl
        · rw [zz_us, r7]; rfl
        · rw [zz_un (by omega), zu_ux (by omega), zu_ux (by omega), r7]; rfl
      · rcases (by omega : f = 0 ∨ f = 1) with rfl | rfl
        · rw [zz_un (by omega), zu_ux (by omega), zu_ux (by omega), r8]; rfl
        · rw [zz_us, r8]; rfl
  have x65 : ∀ k, k < ln.length → I1 65 k = nI (ln.getD k 0) := fun k hk => by rw [xo 65 (by omega) (by omega)]; exact h65 k hk
  -- what is found
  obtain ⟨I2, u2, hu2, e2', y35, y73, yo, y52⟩ : ∃ I2 u2, 18 < u2 ∧ zl_X12_endWeave N (N - 1) 52 (nI ln.length) (nI T) 0 I1 J = zl_X12_endWeave N u2 119 (nI ln.length) (nI T) 0 I2 J ∧ I2 52 35 = (if (zw_lf X Y a ln T e0 e1).2.2.2.2.1.isSome = true then 1 else 0) ∧ (∀ l, (zw_lf X Y a ln T e0 e1).2.2.2.2.1 = some l → ∀ i, i < l.length → I2 73 i = nI (l.getD i 0)) ∧ (∀ y, y ≠ 52 → y ≠ 73 → I2 y = I1 y) ∧ ∀ i, i ≠ 35 → I2 52 i = I1 52 i := by
    obtain ⟨M, hM⟩ : ∃ M, N - 1 = M + 1 := ⟨N - 2, by omega⟩
    rw [hM, zo_X12_endWeave_52]
    unfold zb_X12_endWeave_52
    have i35 : I1 52 35 = (if a.2.2.2.2.1.isSome = true then 1 else 0) := by rw [x52 35 (by omega) (by omega), r5]
    have i73 : I1 73 = I 73 := xo 73 (by omega) (by omega)
    have i72 : I1 72 0 = X := by rw [xo 72 (by omega) (by omega)]; exact h72
    have i72' : I1 72 1 = Y := by rw [xo 72 (by omega) (by omega)]; exact h72'
    have i67 : I1 67 0 = nI e0 := by rw [xo 67 (by omega) (by omega)]; exact h67
    have i67' : I1 67 1 = nI e1 := by rw [xo 67 (by omega) (by omega)]; exact h67'
    have lfd : (zw_lf X Y a ln T e0 e1).2.2.2.2.1 = (match a.2.2.2.2.1 with
      | some l => some l
      | none => if ¬ X < nI e0 ∧ ¬ Y < nI e1 then some ln else none) := rfl
    rw [lfd, i35, i72, i72', i67, i67']
    cases hfd : a.2.2.2.2.1 with
    | some l =>
      rw [if_pos (show ¬ (if (some l).isSome = true then (1 : Int32) else 0) = 0 from (by decide : ¬ (1 : Int32) = 0))]
      refine ⟨I1, M, by omega, rfl, ?_, fun l' hl' i hi => ?_, fun _ _ _ => rfl, fun _ _ => rfl⟩
      · rw [i35, hfd]
      · rw [i73]
        exact r6 l' (by rw [hfd]; exact hl') i hi
    | none =>
      rw [if_neg (show ¬ ¬ (if (none : Option (List Nat)).isSome = true then (1 : Int32) else 0) = 0 from fun w => w (by decide))]
      have stay : ∃ I2 u2, 18 < u2 ∧ zl_X12_endWeave N M 119 (nI ln.length) (nI T) 0 I1 J = zl_X12_endWeave N u2 119 (nI ln.length) (nI T) 0 I2 J ∧ I2 52 35 = (if (none : Option (List Nat)).isSome = true then 1 else 0) ∧ (∀ l, (none : Option (List Nat)) = some l → ∀ i, i < l.length → I2 73 i = nI (l.getD i 0)) ∧ (∀ y, y ≠ 52 → y ≠ 73 → I2 y = I1 y) ∧ ∀ i, i ≠ 35 → I2 52 i = I1 52 i := ⟨I1, M, by omega, rfl, by rw [i35, hfd], fun l hl => (by cases hl), fun _ _ _ => rfl, fun _ _ => rfl⟩
      by_cases q1 : X < nI e0
      · rw [if_pos q1]
        dsimp only
        rw [if_neg (show ¬ (¬ X < nI e0 ∧ ¬ Y < nI e1) from fun w => w.1 q1)]
        exact stay
      · rw [if_neg q1]
        by_cases q2 : Y < nI e1
        · rw [if_pos q2]
          dsimp only
          rw [if_neg (show ¬ (¬ X < nI e0 ∧ ¬ Y < nI e1) from fun w => w.2 q2)]
          exact stay
        · rw [if_neg q2]
          dsimp only
          rw [if_pos (show ¬ X < nI e0 ∧ ¬ Y < nI e1 from ⟨q1, q2⟩)]
          obtain ⟨I2, u2, g0, g1, g2, g3⟩ := zw_c73 (N := N) hl (J := J) (T := nI T) ln.length 0 M (zz_u I1 52 35 1) (by omega) (by omega) (fun i hi => by omega)
          refine ⟨I2, u2, g0, g1, ?_, fun l' hl' i hi => ?_, fun y y1 y2 => by rw [g2 y y2, zu_ux y1], fun i hi => by rw [g2 52 (by omega), zz_un (fun w => hi w.2)]⟩
          · rw [g2 52 (by omega), zz_us]; rfl
          · have : ln = l' := Option.some.inj hl'
            subst this
            rw [g3 i hi, zu_ux (by omega), x65 i hi]
  -- the shortest
  obtain ⟨v2, rfl⟩ : ∃ v2, u2 = v2 + 1 := ⟨u2 - 1, by omega⟩
  have y29 : I2 52 29 = a.2.2.1 := by rw [y52 29 (by omega), x52 29 (by omega) (by omega), r3]
  have y65 : ∀ k, k < ln.length → I2 65 k = nI (ln.getD k 0) := fun k hk => by rw [yo 65 (by omega) (by omega), x65 k hk]
  have tail : ∀ I3 : Nat → Nat → Int32, (∀ y, y ≠ 52 → y ≠ 66 → I3 y = I2 y) → (∀ i, i ≠ 29 → I3 52 i = I2 52 i) → I3 52 29 = (zw_lf X Y a ln T e0 e1).2.2.1 → (∀ i, i < (zw_lf X Y a ln T e0 e1).2.2.2.1.length → I3 66 i = nI ((zw_lf X Y a ln T e0 e1).2.2.2.1.getD i 0)) → zw_R I3 (zw_lf X Y a ln T e0 e1) ∧ (∀ y, y ≠ 52 → y ≠ 66 → y ≠ 69 → y ≠ 73 → I3 y = I y) ∧ ∀ i, i ≠ 28 → i ≠ 29 → i ≠ 30 → i ≠ 35 → I3 52 i = I 52 i := fun I3 z1 z2 z3 z4 => by
    refine ⟨⟨by rw [z2 28 (by omega), y52 28 (by omega)]; exact x28, by rw [z2 30 (by omega), y52 30 (by omega)]; exact x30, z3, z4, by rw [z2 35 (by omega)]; exact y35, fun l hl i hi => by rw [z1 73 (by omega) (by omega)]; exact y73 l hl i hi, by rw [z1 69 (by omega) (by omega), yo 69 (by omega) (by omega)]; exact x690, by rw [z1 69 (by omega) (by omega), yo 69 (by omega) (by omega)]; exact x691, fun k hk => by rw [z1 68 (by omega) (by omega), yo 68 (by omega) (by omega), xo 68 (by omega) (by omega)]; exact r9 k hk, fun s hs => by rw [z1 70 (by omega) (by omega), yo 70 (by omega) (by omega), xo 70 (by omega) (by omega), z1 71 (by omega) (by omega), yo 71 (by omega) (by omega), xo 71 (by omega) (by omega)]; exact r10 s hs⟩, fun y a1 a2 a3 a4 => by rw [z1 y a1 a2, yo y a1 a4, xo y a1 a3], fun i i1 i2 i3 i4 => by rw [z2 i i2, y52 i i4, x52 i i1 i3]⟩
  have s1 : (zw_lf X Y a ln T e0 e1).2.2.1 = if nI T < a.2.2.1 then nI T else a.2.2.1 := rfl
  have s2 : (zw_lf X Y a ln T e0 e1).2.2.2.1 = if nI T < a.2.2.1 then ln else a.2.2.2.1 := rfl
  by_cases q : nI T < a.2.2.1
  · obtain ⟨I3, g1, g2, g3⟩ := zw_c66 (N := N) hl (J := J) ln.length 0 v2 (zz_u I2 52 29 (nI T)) (by omega) (by omega) (fun i hi => by omega)
    refine ⟨I3, ?_, tail I3 (fun y a1 a2 => by rw [g2 y a2, zu_ux a1]) (fun i hi => by rw [g2 52 (by omega), zz_un (fun w => hi w.2)]) ?_ ?_⟩
    · rw [e1', e2', zo_X12_endWeave_119]
      unfold zb_X12_endWeave_119
      rw [y29, if_pos q]
      exact g1
    · rw [g2 52 (by omega), zz_us, s1, if_pos q]
    · rw [s2, if_pos q]
      intro i hi
      rw [g3 i hi, zu_ux (by omega), y65 i hi]
  · refine ⟨I2, ?_, tail I2 (fun _ _ _ => rfl) (fun _ _ => rfl) ?_ ?_⟩
    · rw [e1', e2', zo_X12_endWeave_119]
      unfold zb_X12_endWeave_119
      rw [y29, if_neg q]
    · rw [y29, s1, if_neg q]
    · rw [s2, if_neg q]
      intro i hi
      rw [yo 66 (by omega) (by omega), xo 66 (by omega) (by omega)]
      exact r4 i hi
