/-! THE RULE'S TEXT, by the reference -/
theorem zq_dlt {m : Nat} {t : Nat → Int32} {a : Nat} (h : zq_dig (zq_h m t a) = true) : a < m := by
  unfold zq_dig at h
  have := (of_decide_eq_true h).1
  exact zq_h_lt rfl (fun w => absurd (Int32.lt_of_le_of_lt this w) (by decide))
theorem zq_llt {m : Nat} {t : Nat → Int32} {a : Nat} (h : ¬ zq_let (zq_h m t a) = 6) : a < m := by
  by_cases q : a < m
  · exact q
  · exfalso
    apply h
    unfold zq_h
    rw [if_neg q]
    rfl
theorem zq_nump {m : Nat} {t : Nat → Int32} {a : Nat} (h : zq_dig (zq_h m t a) = true) : a < (zq_num m t a).2 ∧ (zq_num m t a).2 ≤ m := by
  have h0 := zq_dlt h
  unfold zq_num
  by_cases h1 : zq_dig (zq_h m t (a + 1)) = true
  · have l1 := zq_dlt h1
    rw [if_pos h1]
    by_cases h2 : zq_dig (zq_h m t (a + 2)) = true
    · have l2 := zq_dlt h2
      rw [if_pos h2]
      exact ⟨by show a < a + 3; omega, by show a + 3 ≤ m; omega⟩
    · rw [if_neg h2]
      exact ⟨by show a < a + 2; omega, by show a + 2 ≤ m; omega⟩
  · rw [if_neg h1]
    exact ⟨by show a < a + 1; omega, by show a + 1 ≤ m; omega⟩
theorem zq_hlt {m : Nat} {t : Nat → Int32} {a k : Nat} (hk : k < 1000) (h : zq_h m t a = nI k) : a < m := zq_h_lt h (nI_pos (by omega))
theorem zq_prog {m : Nat} {t e : Nat → Int32} : ∀ f md dp v a u b, a ≤ m → zq_g m t e f md dp v a = .inr (u, b) → a ≤ b ∧ b ≤ m ∧ (md ≤ 3 → a < b) := by
  intro f
  induction f with
  | zero => intro md dp v a u b ha h; cases h
  | succ f ih =>
    intro md dp v a u b ha h
    match md with
    | 0 =>
      rw [zq_g] at h
      split at h
      · cases h
      · next x b1 e1 =>
        have p1 := ih _ _ _ _ _ _ ha e1
        have two : ∀ {X : Nat ⊕ (Int32 × Nat)} {g : Int32 → Int32}, zq_h m t b1 = 60 ∨ zq_h m t b1 = 62 ∨ zq_h m t b1 = 61 → (match zq_g m t e f 1 dp 0 (b1 + 1) with
          | .inl x => (.inl x : Nat ⊕ (Int32 × Nat))
          | .inr (w, b2) => .inr (g w, b2)) = .inr (u, b) → a ≤ b ∧ b ≤ m ∧ ((0 : Nat) ≤ 3 → a < b) := by
          intro X g hs hh
          have bl : b1 < m := by
            rcases hs with q | q | q
            · exact zq_hlt (k := 60) (by omega) q
            · exact zq_hlt (k := 62) (by omega) q
            · exact zq_hlt (k := 61) (by omega) q
          split at hh
          · cases hh
          · next w b2 e2 =>
            have p2 := ih _ _ _ _ _ _ (by omega) e2
            injection hh with hh
            injection hh with h1 h2
            subst h2
            exact ⟨by omega, by omega, fun _ => by omega⟩
        split at h
        · next q => exact two (X := .inl 0) (g := fun w => if x < w then 1 else 0) (.inl q) h
        · split at h
          · next q => exact two (X := .inl 0) (g := fun w => if w < x then 1 else 0) (.inr (.inl q)) h
          · split at h
            · next q => exact two (X := .inl 0) (g := fun w => if x = w then 1 else 0) (.inr (.inr q)) h
            · injection h with h
              injection h with h1 h2
              subst h2
              exact ⟨p1.1, p1.2.1, fun _ => p1.2.2 (by omega)⟩
    | 1 =>
      rw [zq_g] at h
      split at h
      · cases h
      · next x b1 e1 =>
        have p1 := ih _ _ _ _ _ _ ha e1
        have p2 := ih _ _ _ _ _ _ p1.2.1 h
        exact ⟨by omega, p2.2.1, fun _ => by have := p1.2.2 (by omega); omega⟩
    | 2 =>
      rw [zq_g] at h
      split at h
      · cases h
      · next x b1 e1 =>
        have p1 := ih _ _ _ _ _ _ ha e1
        have p2 := ih _ _ _ _ _ _ p1.2.1 h
        exact ⟨by omega, p2.2.1, fun _ => by have := p1.2.2 (by omega); omega⟩
    | 3 =>
      rw [zq_g] at h
      split at h
      · next q =>
        have l := zq_hlt (k := 45) (by omega) q
        split at h
        · cases h
        · next x b1 e1 =>
          have p1 := ih _ _ _ _ _ _ (by omega) e1
          injection h with h
          injection h with h1 h2
          subst h2
          exact ⟨by omega, by omega, fun _ => by omega⟩
      · split at h
        · next q =>
          have l := zq_hlt (k := 40) (by omega) q.1
          split at h
          · cases h
          · next x b1 e1 =>
            have p1 := ih _ _ _ _ _ _ (by omega) e1
            split at h
            · next q2 =>
              have l2 := zq_hlt (k := 41) (by omega) q2
              injection h with h
              injection h with h1 h2
              subst h2
              exact ⟨by omega, by omega, fun _ => by omega⟩
            · cases h
        · split at h
          · next q =>
            have p := zq_nump q
            injection h with h
            rw [Prod.ext_iff] at h
            have h2 : (zq_num m t a).2 = b := h.2
            exact ⟨by omega, by omega, fun _ => by omega⟩
          · split at h
            · cases h
            · next q =>
              have l := zq_llt q
              injection h with h
              injection h with h1 h2
              subst h2
              exact ⟨by omega, by omega, fun _ => by omega⟩
    | 4 =>
      rw [zq_g] at h
      split at h
      · next q =>
        have l := zq_hlt (k := 43) (by omega) q
        split at h
        · cases h
        · next x b1 e1 =>
          have p1 := ih _ _ _ _ _ _ (by omega) e1
          have p2 := ih _ _ _ _ _ _ p1.2.1 h
          exact ⟨by omega, p2.2.1, fun w => by omega⟩
      · split at h
        · next q =>
          have l := zq_hlt (k := 45) (by omega) q
          split at h
          · cases h
          · next x b1 e1 =>
            have p1 := ih _ _ _ _ _ _ (by omega) e1
            have p2 := ih _ _ _ _ _ _ p1.2.1 h
            exact ⟨by omega, p2.2.1, fun w => by omega⟩
        · injection h with h
          injection h with h1 h2
          subst h2
          exact ⟨by omega, by omega, fun w => by omega⟩
    | k + 5 =>
      rw [zq_g] at h <;> try (intro w; omega)
      split at h
      · next q =>
        have l := zq_hlt (k := 42) (by omega) q
        split at h
        · cases h
        · next x b1 e1 =>
          have p1 := ih _ _ _ _ _ _ (by omega) e1
          have p2 := ih _ _ _ _ _ _ p1.2.1 h
          exact ⟨by omega, p2.2.1, fun w => by omega⟩
      · split at h
        · next q =>
          have l := zq_hlt (k := 47) (by omega) q
          split at h
          · cases h
          · next x b1 e1 =>
            have p1 := ih _ _ _ _ _ _ (by omega) e1
            have p2 := ih _ _ _ _ _ _ p1.2.1 h
            exact ⟨by omega, p2.2.1, fun w => by omega⟩
        · injection h with h
          injection h with h1 h2
          subst h2
          exact ⟨by omega, by omega, fun w => by omega⟩
theorem zq_inD (x : Int32) : (zv_X12_in x 48 57 = 0) = (zq_dig x = false) := by
  unfold zv_X12_in zq_dig
  apply propext
  by_cases a : x < 48
  · rw [if_pos a]
    simp [Int32.not_le.mpr a]
  · rw [if_neg a]
    by_cases b : 57 < x
    · rw [if_pos b]
      simp [Int32.not_le.mpr b]
    · rw [if_neg b]
      simp [Int32.not_lt.mp a, Int32.not_lt.mp b]
theorem zr_dig {N : Nat} (hN : 100000 ≤ N) {B : Nat → Nat → Int32} {J : Nat → Nat → Int64} {F : zz_F} {m : Nat} {t : Nat → Int32} (h : zr_ok B F m t) (hb : ∀ i, i < m → ∃ b, b < 256 ∧ t i = (nI b).toInt8.toInt32) {a : Nat} (ha : a < 1000) (hd : zq_dig (zq_h m t a) = true) : zf_X12_oneOf N 48 10 (zr_m B (nI a) (-1)) J F = some (zq_h m t a - 48, zr_m B (nI (a + 1)) (-1), J, F) := by
  refine (zr_one hN h hb ha (c := 48) (k := 10) (by omega) (by omega)).trans ?_
  have := of_decide_eq_true hd
  exact if_pos this
theorem zr_num {N : Nat} (hN : 100000 ≤ N) {B : Nat → Nat → Int32} {J : Nat → Nat → Int64} {F : zz_F} {m : Nat} {t : Nat → Int32} (h : zr_ok B F m t) (hb : ∀ i, i < m → ∃ b, b < 256 ∧ t i = (nI b).toInt8.toInt32) {a : Nat} (ha : a < 990) (hd : zq_dig (zq_h m t a) = true) : zf_X12_number N 3 (zr_m B (nI a) (-1)) J F = some ((zq_num m t a).1, zr_m B (nI (zq_num m t a).2) (-1), J, F) := by
  obtain ⟨L, rfl⟩ : ∃ L, N = L + 1 + 1 + 1 + 1 := ⟨N - 4, by omega⟩
  rw [zo_X12_number]
  unfold zb_X12_number_0
  rw [zr_dig hN h hb (by omega) hd, Option.bind_some, zo_X12_number_11]
  unfold zb_X12_number_11
  rw [if_neg (by decide), zr_fine, if_neg (by decide), zr_here hN h (by omega), Option.bind_some]
  simp only [zq_inD]
  unfold zq_num
  by_cases h1 : zq_dig (zq_h m t (a + 1)) = true
  · rw [if_neg (by rw [h1]; decide), if_pos h1, zr_dig hN h hb (by omega) h1, Option.bind_some, zo_X12_number_11]
    unfold zb_X12_number_11
    rw [if_neg (by decide), zr_fine, if_neg (by decide), zr_here hN h (by omega), Option.bind_some]
    simp only [zq_inD]
    by_cases h2 : zq_dig (zq_h m t (a + 2)) = true
    · rw [if_neg (by rw [show a + 1 + 1 = a + 2 by omega, h2]; decide), if_pos h2, zr_dig hN h hb (by omega) h2, Option.bind_some, zo_X12_number_11]
      unfold zb_X12_number_11
      rw [if_pos (by decide)]
    · rw [if_pos (by rw [show a + 1 + 1 = a + 2 by omega]; exact Bool.not_eq_true _ ▸ h2), if_neg h2]
  · rw [if_pos (Bool.not_eq_true _ ▸ h1), if_neg h1]
theorem zq_5 (m : Nat) (t e : Nat → Int32) (f dp : Nat) (v : Int32) (a : Nat) : zq_g m t e (f + 1) 5 dp v a = if zq_h m t a = 42 then (match zq_g m t e f 3 dp 0 (a + 1) with
        | .inl x => .inl x
        | .inr (w, b) => zq_g m t e f 5 dp (v * w) b)
      else if zq_h m t a = 47 then (match zq_g m t e f 3 dp 0 (a + 1) with
        | .inl x => .inl x
        | .inr (w, b) => zq_g m t e f 5 dp (if w = 0 then 0 else v / w) b)
      else .inr (v, a) := rfl
